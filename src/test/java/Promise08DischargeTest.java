public final class Promise08DischargeTest {
    public static void main(String[] args) {
        accountsForPieces();
        noneLeftIsDischarged();
        doesNotDiffer();
        notAsManyLeft();
        noneLeftAtFirst();
        eachPieceOfThousand();
        noSuchMovement();
        belowOne();
        wrongInputsThrowWhereNoneWouldBeAnswered();
        Check.end();
    }

    /** So many pieces under seal 77, of which the departure knows that so many were FOUND, under a seal. */
    private static Run differing(int pieces, int found, int seal) {
        Run x = new Run(3);
        x.movement(0, 1, 10, 77, pieces, 1000);
        x.arrive(0, 1, seal);
        x.control(0, found);
        x.receive(0, 2);
        Check.due("DIFFERS", x.state(0, 0), 3);
        return x;
    }

    private static void isNone(Run x, String when, int n) {
        Check.idle(x, "discharge of " + n + " " + when, TransitSteps.NONE, () -> x.discharge(0, n));
    }

    private static void accountsForPieces() {
        Check.sentence("Pieces of a movement that DIFFERS are accounted for: how many are left");
        Run x = differing(10, 4, 77);
        Check.due("discharge(0, 1)", x.discharge(0, 1), 5);
        Check.same("the movement", " 3 5 0 0 77 -1 4 6 0 offices 1 24 0", Look.movement(x, 0));
        Check.due("discharge(0, 4)", x.discharge(0, 4), 1);
        Check.same("the movement", " 3 9 0 0 77 -1 4 6 0 offices 1 24 0", Look.movement(x, 0));
        Check.due("still RESERVED", x.count(4), 1000);
        Check.due("none ended", x.count(6), 0);
        Check.due("no message comes of it", x.count(2), 3);
    }

    private static void noneLeftIsDischarged() {
        Check.sentence("how many are left (0: it is DISCHARGED now)");
        Run x = differing(10, 9, 77);
        Check.due("the last one", x.discharge(0, 1), 0);
        Check.same("the movement", " 6 10 0 0 77 -1 9 1 0 offices 1 24 0", Look.movement(x, 0));
        Check.due("RESERVED no more", x.count(4), 0);
        Check.due("ended", x.count(6), 1);
        Check.due("no message comes of it", x.count(2), 3);
        Run y = differing(10, 0, 77);
        Check.due("all at once", y.discharge(0, 10), 0);
        Check.due("DISCHARGED", y.state(0, 0), 6);
        Run z = differing(10, 7, 0);
        Check.due("though the seal differs", z.discharge(0, 3), 0);
        Check.due("DISCHARGED", z.state(0, 0), 6);
        Run w = differing(1, 0, 77);
        Check.due("the only one", w.discharge(0, 1), 0);
        Check.due("DISCHARGED", w.state(0, 0), 6);
    }

    private static void doesNotDiffer() {
        Check.sentence("NONE if it does not differ, or there are not as many left.");
        for (Scene scene : Scene.values()) {
            if (scene != Scene.DIFFERS) {
                Run x = scene.make();
                isNone(x, "when " + scene, 1);
                isNone(x, "when " + scene, 5);
            }
        }
        Run x = Scene.begun();
        x.arrive(0, 2, 70);
        x.control(0, 3);
        isNone(x, "when the RESULT was not received", 1);
        Run y = Scene.DIFFERS.make();
        y.tick(50);
        isNone(y, "when one that differed is RECOVERED", 2);
    }

    private static void notAsManyLeft() {
        Check.sentence("NONE if it does not differ, or there are not as many left.");
        Run x = differing(10, 4, 77);
        isNone(x, "with 6 left", 7);
        isNone(x, "with 6 left", 10);
        isNone(x, "with 6 left", Integer.MAX_VALUE);
        Check.due("just those", x.discharge(0, 5), 1);
        isNone(x, "with 1 left", 2);
        isNone(x, "with 1 left", Integer.MAX_VALUE - 1);
        Check.due("just that", x.discharge(0, 1), 0);
        isNone(x, "with none left", 1);
        Run y = differing(1000, 0, 77);
        isNone(y, "with 1000 left", 1001);
        Check.due("just those", y.discharge(0, 1000), 0);
    }

    private static void noneLeftAtFirst() {
        Check.sentence("NONE if it does not differ, or there are not as many left.");
        isNone(differing(10, 11, 77), "with one piece too many", 1);
        isNone(differing(10, 10, 76), "with the seal alone that differs", 1);
        isNone(differing(10, 1000, 0), "with both", 1);
    }

    private static void eachPieceOfThousand() {
        Check.sentence("PIECES (1 .. 1000)");
        Run x = differing(1000, 600, 77);
        for (int left = 399; left >= 1; left--) {
            Check.due("one of " + (left + 1), x.discharge(0, 1), left);
        }
        Check.due("DIFFERS to the last", x.state(0, 0), 3);
        Check.due("the last", x.discharge(0, 1), 0);
        Check.due("ACCOUNTED", x.state(0, 1), 1000);
        Check.due("DISCHARGED", x.state(0, 0), 6);
    }

    private static void noSuchMovement() {
        Check.sentence("IllegalArgumentException if there is no such movement, or n is below 1.");
        Run none = new Run(3);
        Check.refused(none, "discharge(0, 1) of none", Check.ARGUMENT, () -> none.discharge(0, 1));
        Run x = differing(10, 4, 77);
        for (int m : new int[] {-1, 1, 19, 20, Integer.MIN_VALUE, Integer.MAX_VALUE}) {
            Check.refused(x, "discharge(" + m + ", 1)", Check.ARGUMENT, () -> x.discharge(m, 1));
        }
    }

    private static void belowOne() {
        Check.sentence("IllegalArgumentException if there is no such movement, or n is below 1.");
        Run x = differing(10, 4, 77);
        for (int n : new int[] {0, -1, -6, Integer.MIN_VALUE}) {
            Check.refused(x, "discharge(0, " + n + ")", Check.ARGUMENT, () -> x.discharge(0, n));
        }
        Check.due("discharge(0, 1)", x.discharge(0, 1), 5);
    }

    private static void wrongInputsThrowWhereNoneWouldBeAnswered() {
        Check.sentence("IllegalArgumentException if there is no such movement, or n is below 1.");
        for (Scene scene : Scene.values()) {
            Run x = scene.make();
            Check.refused(x, scene + ": discharge of 0", Check.ARGUMENT, () -> x.discharge(0, 0));
            Check.refused(x, scene + ": discharge of -1", Check.ARGUMENT, () -> x.discharge(0, -1));
        }
        Run y = differing(10, 10, 76);
        Check.refused(y, "discharge of 0 with none left", Check.ARGUMENT, () -> y.discharge(0, 0));
    }
}
