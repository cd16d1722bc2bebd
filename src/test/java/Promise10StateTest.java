public final class Promise10StateTest {
    public static void main(String[] args) {
        tellsAllStates();
        tellsAllNine();
        tellsNoneUntilTold();
        tellsPiecesLessFound();
        tellsWhetherTheSealDiffers();
        keepsMovementsApart();
        noSuchMovement();
        noSuchWhat();
        Check.end();
    }

    private static void is(Run x, String when, int m, int... due) {
        Check.row(when + ": state(" + m + "), what", what -> x.state(m, what), due);
    }

    private static void tellsAllStates() {
        Check.sentence("1 ON THE WAY, 2 ARRIVED, 3 DIFFERS, 4 ENQUIRED, 5 RECOVERED, 6 DISCHARGED");
        for (Scene scene : Scene.values()) {
            Check.due(scene.toString(), scene.make().state(0, 0), scene.state);
        }
    }

    private static void tellsAllNine() {
        Check.sentence("Of a movement at the departure: what 0: STATE, 1: ACCOUNTED, 2: what was RECOVERED, 3: enquiries sent");
        Run x = new Run(4);
        x.movement(0, 1, 10, 77, 10, 1000);
        is(x, "ON THE WAY", 0, 1, 0, 0, 0, -1, -1, -1, -1, 0);
        x.tick(25);
        is(x, "ENQUIRED", 0, 4, 0, 0, 2, -1, -1, -1, -1, 0);
        x.arrive(0, 2, 70);
        x.control(0, 6);
        is(x, "not told yet", 0, 4, 0, 0, 2, -1, -1, -1, -1, 0);
        x.receive(0, 3);
        is(x, "ARRIVED", 0, 2, 0, 0, 2, 70, 1, -1, -1, 1);
        x.receive(0, 5);
        is(x, "DIFFERS", 0, 3, 6, 0, 2, 70, 1, 6, 4, 1);
        x.discharge(0, 1);
        is(x, "one more accounted for", 0, 3, 7, 0, 2, 70, 1, 6, 4, 1);
        x.tick(50);
        is(x, "RECOVERED", 0, 5, 7, 300, 2, 70, 1, 6, 4, 1);
        x.proof(0);
        is(x, "DISCHARGED", 0, 6, 7, 0, 2, 70, 1, 6, 4, 1);
    }

    private static void tellsNoneUntilTold() {
        Check.sentence("4 to 7: NONE until told");
        Run x = Scene.begun();
        x.tick(11);
        x.arrive(0, 2, 70);
        x.control(0, 3);
        x.tick(30);
        is(x, "neither was received", 0, 4, 0, 0, 3, -1, -1, -1, -1, 0);
        x.lose(1);
        x.lose(2);
        is(x, "both are lost", 0, 4, 0, 0, 3, -1, -1, -1, -1, 0);
        Run y = Scene.begun();
        y.arrive(0, 2, 0);
        y.control(0, 0);
        y.receive(1, 1);
        is(y, "told of no seal, in time", 0, 2, 0, 0, 0, 0, 0, -1, -1, 1);
        y.receive(1, 2);
        is(y, "told of no pieces", 0, 3, 0, 0, 0, 0, 0, 0, 5, 1);
    }

    private static void tellsPiecesLessFound() {
        Check.sentence("7: pieces less FOUND as known");
        int[] found = {0, 1, 9, 10, 11, 12, 1000};
        int[] due = {10, 9, 1, 0, -1, -2, -990};
        for (int i = 0; i < found.length; i++) {
            Run x = new Run(4);
            x.movement(0, 1, 10, 77, 10, 1000);
            x.arrive(0, 1, 77);
            x.control(0, found[i]);
            Check.due("not told of " + found[i], x.state(0, 7), -1);
            x.receive(0, 2);
            Check.due("pieces less " + found[i], x.state(0, 7), due[i]);
            Check.due("FOUND " + found[i], x.state(0, 6), found[i]);
            Check.due("LATE is not told by a RESULT", x.state(0, 5), -1);
        }
    }

    private static void tellsWhetherTheSealDiffers() {
        Check.sentence("8: 1 if the seal known differs, else 0");
        for (int own : new int[] {1, 77, 1000000000}) {
            for (int seen : new int[] {0, 1, 2, 76, 77, 78, 999999999, 1000000000}) {
                Run x = new Run(4);
                x.movement(0, 1, 10, own, 10, 1000);
                x.arrive(0, 1, seen);
                x.control(0, 10);
                String when = "seal " + seen + " for " + own;
                Check.due("not told of " + when, x.state(0, 8), 0);
                x.receive(0, 1);
                Check.due("ARRIVED tells " + when, x.state(0, 4), seen);
                Check.due("ARRIVED, " + when, x.state(0, 8), seen == own ? 0 : 1);
                x.receive(0, 2);
                Check.due("RESULT tells " + when, x.state(0, 4), seen);
                Check.due("RESULT, " + when, x.state(0, 8), seen == own ? 0 : 1);
                Check.due("STATE, " + when, x.state(0, 0), seen == own ? 6 : 3);
            }
        }
    }

    private static void keepsMovementsApart() {
        Check.sentence("Of a movement at the departure");
        Run x = new Run(4);
        for (int m = 0; m < 20; m++) {
            x.movement(0, 1, 10, 100 + m, 10, 1000);
        }
        x.arrive(19, 1, 119);
        x.receive(0, 20);
        x.proof(0);
        is(x, "the first", 0, 6, 0, 0, 0, -1, -1, -1, -1, 0);
        for (int m = 1; m < 19; m++) {
            is(x, "one between", m, 1, 0, 0, 0, -1, -1, -1, -1, 0);
        }
        is(x, "the last", 19, 2, 0, 0, 0, 119, 0, -1, -1, 0);
        Check.refused(x, "the one behind it", Check.INDEX, () -> x.state(20, 0));
    }

    private static void noSuchMovement() {
        Check.sentence("IndexOutOfBoundsException if there is no such movement or what.");
        Run x = new Run(4);
        Check.refused(x, "state(0, 0) of none", Check.INDEX, () -> x.state(0, 0));
        x.movement(0, 1, 10, 77, 10, 1000);
        for (int m : new int[] {-1, 1, 19, 20, Integer.MIN_VALUE, Integer.MAX_VALUE}) {
            for (int what = 0; what <= 8; what++) {
                int w = what;
                Check.thrown("state(" + m + ", " + w + ")", Check.INDEX, () -> x.state(m, w));
            }
            Check.refused(x, "state(" + m + ", 9)", Check.INDEX, () -> x.state(m, 9));
        }
    }

    private static void noSuchWhat() {
        Check.sentence("IndexOutOfBoundsException if there is no such movement or what.");
        for (Scene scene : Scene.values()) {
            Run x = scene.make();
            for (int what : new int[] {-1, 9, 10, Integer.MIN_VALUE, Integer.MAX_VALUE}) {
                Check.refused(x, scene + ": state(0, " + what + ")", Check.INDEX, () -> x.state(0, what));
            }
        }
    }
}
