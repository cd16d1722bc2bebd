public final class Promise04ControlTest {
    public static void main(String[] args) {
        sendsTheResult();
        isDoneElsewhereToo();
        haveNotArrived();
        wereControlled();
        isDoneWhereverTheMovementStands();
        noSuchMovement();
        foundThatCannotBe();
        wrongInputsThrowWhereTheCallWouldBeRefused();
        Check.end();
    }

    private static void sendsTheResult() {
        Check.sentence("They are CONTROLLED: 1");
        Run x = Scene.begun();
        x.arrive(0, 2, 70);
        Check.due("control(0, 3)", x.control(0, 3), 1);
        Check.due("one message more", x.count(2), 3);
        Check.same("RESULT", " 3 0 2 1 3 70 0", Look.message(x, 2));
        Check.same("the departure was told nothing yet", " 1 0 0 0 -1 -1 -1 -1 0 offices 0 1 24 0", Look.movement(x, 0));
    }

    private static void isDoneElsewhereToo() {
        Check.sentence("then they are CONTROLLED there, once");
        Run x = Scene.begun();
        x.arrive(0, 0, 77);
        Check.due("control(0, 5)", x.control(0, 5), 1);
        Check.due("one message more", x.count(2), 4);
        Check.same("RESULT from elsewhere", " 3 0 0 1 5 77 0", Look.message(x, 3));
        Check.row("controlled there, office", office -> x.office(0, office), 24, 1, 0, 0);
    }

    private static void haveNotArrived() {
        Check.sentence("0 if they have not arrived or were controlled.");
        Scene[] onTheirWay = {
            Scene.ON_THE_WAY, Scene.ENQUIRED, Scene.RECOVERED, Scene.DISCHARGED_BY_PROOF, Scene.DISCHARGED_AFTER_RECOVERY,
        };
        for (Scene scene : onTheirWay) {
            Run x = scene.make();
            Check.idle(x, scene + ": control", 0, () -> x.control(0, 5));
            Check.idle(x, scene + ": control of none", 0, () -> x.control(0, 0));
        }
        Run x = Scene.begun();
        x.arrive(0, 1, 77);
        Check.idle(x, "control behind a refused arrival", 0, () -> x.control(0, 5));
    }

    private static void wereControlled() {
        Check.sentence("0 if they have not arrived or were controlled.");
        for (int found : new int[] {0, 5, 1000}) {
            Run x = Scene.begun();
            x.arrive(0, 2, 77);
            Check.due("control of " + found, x.control(0, found), 1);
            Check.idle(x, "the same again", 0, () -> x.control(0, found));
            Check.idle(x, "another number", 0, () -> x.control(0, 4));
            x.receive(1, 2);
            Check.idle(x, "when the departure knows", 0, () -> x.control(0, 5));
        }
        for (Scene scene : new Scene[] {Scene.DIFFERS, Scene.DISCHARGED_BY_RESULT, Scene.DISCHARGED_BY_PIECES}) {
            Run x = scene.make();
            Check.idle(x, scene + ": control", 0, () -> x.control(0, 5));
        }
    }

    /** Goods that have arrived and were not controlled are so, whatever the departure makes of the movement. */
    private static void isDoneWhereverTheMovementStands() {
        Check.sentence("They are CONTROLLED: 1; 0 if they have not arrived or were controlled.");
        Run discharged = Scene.begun();
        discharged.arrive(0, 2, 77);
        discharged.proof(0);
        isDone(discharged, "DISCHARGED", 6);
        Run recovered = Scene.begun();
        recovered.arrive(0, 2, 77);
        recovered.tick(50);
        isDone(recovered, "RECOVERED", 5);
        isDone(Scene.ARRIVED.make(), "ARRIVED", 2);
        Run enquired = Scene.ENQUIRED.make();
        enquired.arrive(0, 2, 77);
        isDone(enquired, "ENQUIRED", 4);
    }

    private static void isDone(Run x, String when, int state) {
        int message = x.count(2);
        Check.due("control when " + when, x.control(0, 4), 1);
        Check.same("RESULT when " + when, " 3 0 2 1 4 77 0", Look.message(x, message));
        Check.due("one message more when " + when, x.count(2), message + 1);
        Check.due("STATE until told when " + when, x.state(0, 0), state);
        Check.due("controlled there when " + when, x.office(0, 2) & 16, 16);
    }

    private static void noSuchMovement() {
        Check.sentence("IllegalArgumentException if there is no such movement, or found is not 0 .. 1000.");
        Run none = new Run(4);
        Check.refused(none, "control(0, 1) of none", Check.ARGUMENT, () -> none.control(0, 1));
        Run x = Scene.begun();
        x.arrive(0, 2, 77);
        for (int m : new int[] {-1, 1, 19, 20, Integer.MIN_VALUE, Integer.MAX_VALUE}) {
            Check.refused(x, "control(" + m + ", 1)", Check.ARGUMENT, () -> x.control(m, 1));
        }
    }

    private static void foundThatCannotBe() {
        Check.sentence("so many pieces are FOUND (0 .. 1000)");
        Run x = Scene.begun();
        x.arrive(0, 2, 77);
        for (int found : new int[] {-1, 1001, Integer.MIN_VALUE, Integer.MAX_VALUE}) {
            Check.refused(x, "control(0, " + found + ")", Check.ARGUMENT, () -> x.control(0, found));
        }
        for (int found : new int[] {0, 1, 999, 1000}) {
            Run y = Scene.begun();
            y.arrive(0, 2, 77);
            Check.due("control(0, " + found + ")", y.control(0, found), 1);
            Check.due(found + " is told", y.message(2, 4), found);
            y.receive(1, 2);
            Check.due(found + " is known", y.state(0, 6), found);
        }
    }

    private static void wrongInputsThrowWhereTheCallWouldBeRefused() {
        Check.sentence("IllegalArgumentException if there is no such movement, or found is not 0 .. 1000.");
        for (Scene scene : Scene.values()) {
            Run x = scene.make();
            Check.refused(x, scene + ": found -1", Check.ARGUMENT, () -> x.control(0, -1));
            Check.refused(x, scene + ": found 1001", Check.ARGUMENT, () -> x.control(0, 1001));
        }
    }
}
