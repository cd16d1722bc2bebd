public final class Promise02MovementTest {
    private static final int[] GOOD = {0, 1, 10, 77, 5, 1000};

    public static void main(String[] args) {
        beginsAndAnnounces();
        takesTheEdges();
        refusesWhatCannotBe();
        limitIsNotAheadOfNow();
        holdsTwenty();
        Check.end();
    }

    private static void beginsAndAnnounces() {
        TransitSteps x = new TransitSteps(3);
        Check.due("first", x.movement(2, 1, 10, 77, 5, 1000), 0);
        Check.due("second", x.movement(0, 2, 12, 78, 6, 500), 1);
        Check.due("count(1)", x.count(1), 2);
        Check.due("count(2)", x.count(2), 2);
        Check.due("count(4)", x.count(4), 1500);
        Check.same("first's announcement", " 1 0 2 1 5 10 0", Look.message(x, 0));
        Check.same("second's announcement", " 1 1 0 2 6 12 0", Look.message(x, 1));
        int[] due = {1, 0, 0, 0, -1, -1, -1, -1, 0};
        for (int what = 0; what <= 8; what++) {
            Check.due("state(0, " + what + ") at first", x.state(0, what), due[what]);
        }
        Check.due("the departure", x.office(0, 2), 1);
        Check.due("the destination knows nothing yet", x.office(0, 1), 0);
        Check.due("an office beside", x.office(0, 0), 0);
    }

    private static void takesTheEdges() {
        TransitSteps x = new TransitSteps(8);
        Check.due("lowest of all", x.movement(7, 0, 0, 1, 1, 0), 0);
        Check.due("highest of all", x.movement(0, 7, 10000, 1000000000, 1000, 1000000), 1);
        Check.due("the same again", x.movement(0, 7, 10000, 1000000000, 1000, 1000000), 2);
    }

    private static void refusesWhatCannotBe() {
        int[][] bad = {
            {0, -1}, {0, 3}, {0, Integer.MIN_VALUE}, {0, Integer.MAX_VALUE}, {0, 1},
            {1, -1}, {1, 3}, {1, 0}, {1, Integer.MIN_VALUE}, {1, Integer.MAX_VALUE},
            {2, -1}, {2, 10001}, {2, Integer.MIN_VALUE}, {2, Integer.MAX_VALUE},
            {3, 0}, {3, -1}, {3, 1000000001}, {3, Integer.MIN_VALUE}, {3, Integer.MAX_VALUE},
            {4, 0}, {4, -1}, {4, 1001}, {4, Integer.MIN_VALUE}, {4, Integer.MAX_VALUE},
            {5, -1}, {5, 1000001}, {5, Integer.MIN_VALUE}, {5, Integer.MAX_VALUE},
        };
        TransitSteps x = new TransitSteps(3);
        x.movement(0, 1, 10, 77, 5, 1000);
        for (int[] one : bad) {
            int[] a = GOOD.clone();
            a[one[0]] = one[1];
            Check.refused(x, "movement with " + one[1] + " as argument " + one[0], Check.ARGUMENT,
                    () -> x.movement(a[0], a[1], a[2], a[3], a[4], a[5]));
        }
    }

    private static void limitIsNotAheadOfNow() {
        TransitSteps x = new TransitSteps(2);
        x.tick(50);
        Check.refused(x, "limit a day ahead", Check.ARGUMENT, () -> x.movement(0, 1, 49, 1, 1, 1));
        Check.due("limit today", x.movement(0, 1, 50, 1, 1, 1), 0);
        x.tick(10000);
        Check.refused(x, "limit ahead of the last day", Check.ARGUMENT, () -> x.movement(0, 1, 9999, 1, 1, 1));
        Check.due("limit on the last day", x.movement(0, 1, 10000, 1, 1, 1), 1);
    }

    private static void holdsTwenty() {
        TransitSteps x = new TransitSteps(2);
        for (int i = 0; i < 20; i++) {
            Check.due("movement " + i, x.movement(i % 2, 1 - i % 2, i, i + 1, i + 1, i), i);
        }
        Check.refused(x, "the 21st", Check.STATE, () -> x.movement(0, 1, 10, 1, 1, 1));
        Check.refused(x, "the 21st with a wrong seal", Check.ARGUMENT, () -> x.movement(0, 1, 10, 0, 1, 1));
        Check.refused(x, "the 21st to itself", Check.ARGUMENT, () -> x.movement(1, 1, 10, 1, 1, 1));
        Check.refused(x, "the 21st with a late limit", Check.ARGUMENT, () -> x.movement(0, 1, 10001, 1, 1, 1));
        x.proof(3);
        Check.refused(x, "the 21st when one has ended", Check.STATE, () -> x.movement(0, 1, 10, 1, 1, 1));
    }
}
