public final class Promise01NewObjectTest {
    public static void main(String[] args) {
        for (int n = 2; n <= 8; n++) {
            officesAre(n, n);
        }
        for (int n : new int[] {1, 9, 0, -1, -4, 100, Integer.MIN_VALUE, Integer.MAX_VALUE}) {
            officesAre(n, 4);
        }
        startsEmpty();
        objectsAreApart();
        Check.due("NONE", TransitSteps.NONE, -1);
        Check.end();
    }

    private static void officesAre(int asked, int due) {
        TransitSteps x = new TransitSteps(asked);
        String made = "new TransitSteps(" + asked + "): ";
        Check.due(made + "count(0)", x.count(0), due);
        Check.due(made + "movement to the last office", x.movement(0, due - 1, 0, 1, 1, 0), 0);
        Check.thrown(made + "movement to the office behind it", Check.ARGUMENT, () -> x.movement(0, due, 0, 1, 1, 0));
    }

    private static void startsEmpty() {
        TransitSteps x = new TransitSteps(5);
        for (int what = 1; what <= 7; what++) {
            Check.due("new: count(" + what + ")", x.count(what), 0);
        }
    }

    private static void objectsAreApart() {
        TransitSteps x = new TransitSteps(3);
        TransitSteps y = new TransitSteps(3);
        x.movement(0, 1, 5, 1, 1, 1);
        x.tick(5);
        Check.due("the other object's movements", y.count(1), 0);
        Check.due("the other object's day", y.count(3), 0);
    }
}
