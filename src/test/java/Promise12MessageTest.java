public final class Promise12MessageTest {
    public static void main(String[] args) {
        tellsAllSixKinds();
        throwsForWrongInputs();
        Check.end();
    }

    private static void tellsAllSixKinds() {
        TransitSteps x = new TransitSteps(4);
        x.movement(0, 1, 99, 5, 6, 7);
        x.movement(3, 2, 10, 77, 10, 1000);
        x.arrive(1, 1, 70);
        x.control(1, 4);
        x.tick(20);
        x.receive(2, 5);
        x.receive(2, 1);
        x.lose(3);
        String[] due = {
            " 1 0 0 1 6 99 0", " 1 1 3 2 10 10 1", " 2 1 1 3 70 0 0", " 6 1 1 2 1 0 2", " 3 1 1 3 4 70 0",
            " 4 1 3 2 1 0 1", " 5 1 2 3 0 0 0",
        };
        Check.due("messages", x.count(2), due.length);
        for (int i = 0; i < due.length; i++) {
            Check.same("message " + i, due[i], Look.message(x, i));
        }
    }

    private static void throwsForWrongInputs() {
        TransitSteps x = new TransitSteps(4);
        Check.thrown("message(0, 0) of none", Check.INDEX, () -> x.message(0, 0));
        x.movement(0, 1, 10, 77, 10, 1000);
        for (int what : new int[] {-1, 7, Integer.MIN_VALUE, Integer.MAX_VALUE}) {
            Check.refused(x, "message(0, " + what + ")", Check.INDEX, () -> x.message(0, what));
        }
        for (int i : new int[] {-1, 1, 199, 200, 1000, Integer.MIN_VALUE, Integer.MAX_VALUE}) {
            Check.refused(x, "message(" + i + ", 0)", Check.INDEX, () -> x.message(i, 0));
        }
    }
}
