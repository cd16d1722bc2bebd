public final class Promise10StateTest {
    public static void main(String[] args) {
        tellsWhatIsKnown();
        tellsWhatIsMissing();
        tellsWhetherTheSealDiffers();
        keepsMovementsApart();
        throwsForWrongInputs();
        Check.end();
    }

    private static void is(TransitSteps x, String when, int m, int... due) {
        for (int what = 0; what < due.length; what++) {
            Check.due(when + ": state(" + m + ", " + what + ")", x.state(m, what), due[what]);
        }
    }

    private static void tellsWhatIsKnown() {
        TransitSteps x = new TransitSteps(4);
        x.movement(0, 1, 10, 77, 10, 1000);
        is(x, "ON THE WAY", 0, 1, 0, 0, 0, -1, -1, -1, -1, 0);
        x.tick(25);
        is(x, "ENQUIRED", 0, 4, 0, 0, 2, -1, -1, -1, -1, 0);
        x.arrive(0, 2, 70);
        x.control(0, 6);
        is(x, "not told yet", 0, 4, 0, 0, 2, -1, -1, -1, -1, 0);
        x.receive(0, 3);
        is(x, "ARRIVED", 0, 2, 0, 0, 2, 70, 1, -1, -1, 1);
        x.receive(0, 5);
        is(x, "DIFFERS", 0, 3, 6, 0, 2, 70, 1, 6, 4, 1);
        x.discharge(0, 1);
        is(x, "one more accounted for", 0, 3, 7, 0, 2, 70, 1, 6, 4, 1);
        x.tick(50);
        is(x, "RECOVERED", 0, 5, 7, 300, 2, 70, 1, 6, 4, 1);
        x.proof(0);
        is(x, "DISCHARGED", 0, 6, 7, 0, 2, 70, 1, 6, 4, 1);
    }

    private static void tellsWhatIsMissing() {
        int[] found = {0, 9, 10, 11, 1000};
        int[] due = {10, 1, 0, -1, -990};
        for (int i = 0; i < found.length; i++) {
            TransitSteps x = new TransitSteps(4);
            x.movement(0, 1, 10, 77, 10, 1000);
            x.arrive(0, 1, 77);
            x.control(0, found[i]);
            x.receive(0, 2);
            Check.due("pieces less " + found[i], x.state(0, 7), due[i]);
            Check.due("FOUND " + found[i], x.state(0, 6), found[i]);
            Check.due("LATE is not told by a RESULT", x.state(0, 5), -1);
        }
    }

    private static void tellsWhetherTheSealDiffers() {
        int[] seen = {0, 76, 77, 78, 1000000000};
        for (int seal : seen) {
            TransitSteps x = new TransitSteps(4);
            x.movement(0, 1, 10, 77, 10, 1000);
            x.arrive(0, 1, seal);
            Check.due("not told of seal " + seal, x.state(0, 8), 0);
            x.receive(0, 1);
            Check.due("seal " + seal, x.state(0, 4), seal);
            Check.due("seal " + seal + " differs", x.state(0, 8), seal == 77 ? 0 : 1);
        }
    }

    private static void keepsMovementsApart() {
        TransitSteps x = new TransitSteps(4);
        x.movement(0, 1, 10, 77, 10, 1000);
        x.movement(0, 1, 10, 78, 10, 1000);
        x.arrive(1, 1, 78);
        x.receive(0, 2);
        is(x, "the other", 0, 1, 0, 0, 0, -1, -1, -1, -1, 0);
        is(x, "the one", 1, 2, 0, 0, 0, 78, 0, -1, -1, 0);
    }

    private static void throwsForWrongInputs() {
        TransitSteps x = new TransitSteps(4);
        Check.thrown("state(0, 0) of none", Check.INDEX, () -> x.state(0, 0));
        x.movement(0, 1, 10, 77, 10, 1000);
        for (int what : new int[] {-1, 9, Integer.MIN_VALUE, Integer.MAX_VALUE}) {
            Check.refused(x, "state(0, " + what + ")", Check.INDEX, () -> x.state(0, what));
        }
        for (int m : new int[] {-1, 1, 19, 20, Integer.MIN_VALUE, Integer.MAX_VALUE}) {
            Check.refused(x, "state(" + m + ", 0)", Check.INDEX, () -> x.state(m, 0));
        }
    }
}
