public final class Promise01NewObjectTest {
    public static void main(String[] args) {
        soManyOffices();
        elseFour();
        startsEmpty();
        objectsAreApart();
        Check.end();
    }

    private static void soManyOffices() {
        Check.sentence("So many offices (2 .. 8, else 4).");
        for (int n = 2; n <= 8; n++) {
            officesAre(n, n);
        }
    }

    private static void elseFour() {
        Check.sentence("So many offices (2 .. 8, else 4).");
        for (int n : new int[] {1, 9, 0, -1, -2, -8, 10, 16, 258, 65538, Integer.MIN_VALUE, Integer.MAX_VALUE}) {
            officesAre(n, 4);
        }
    }

    private static void officesAre(int asked, int due) {
        Run x = new Run(asked);
        String made = "new TransitSteps(" + asked + "): ";
        Check.due(made + "count(0)", x.count(0), due);
        Check.refused(x, made + "movement to the office behind the last", Check.ARGUMENT,
                () -> x.movement(0, due, 0, 1, 1, 0));
        Check.due(made + "movement to the last office", x.movement(0, due - 1, 0, 1, 1, 0), 0);
        Check.due(made + "movement from the last office", x.movement(due - 1, 0, 0, 1, 1, 0), 1);
    }

    private static void startsEmpty() {
        Check.sentence("NOW is a day (0 at first), 0 .. 10000.");
        for (int asked = 1; asked <= 9; asked++) {
            Run x = new Run(asked);
            for (int what = 1; what <= 7; what++) {
                Check.due("new: count(" + what + ")", x.count(what), 0);
            }
        }
    }

    /** Two objects that are used by turns know nothing of each other. */
    private static void objectsAreApart() {
        TransitSteps x = new TransitSteps(3);
        TransitSteps y = new TransitSteps(5);
        x.movement(0, 1, 5, 1, 1, 1);
        x.tick(15);
        Check.due("the other object's offices", y.count(0), 5);
        for (int what = 1; what <= 7; what++) {
            Check.due("the other object's count(" + what + ")", y.count(what), 0);
        }
        Check.due("the other object's first movement", y.movement(4, 3, 2, 1, 1, 1), 0);
        Check.due("the first object's movements", x.count(1), 1);
        Check.due("the first object's messages", x.count(2), 2);
    }
}
