public final class Promise06LoseTest {
    public static void main(String[] args) {
        TransitSteps x = new TransitSteps(3);
        Check.no("lose(0) of none", x.lose(0));
        x.movement(0, 1, 10, 77, 5, 1000);
        x.movement(0, 2, 10, 77, 5, 1000);
        Check.yes("lose(0)", x.lose(0));
        Check.due("it is LOST", x.message(0, 6), 2);
        Check.due("the other is on its way", x.message(1, 6), 0);
        Check.due("one is on its way", x.count(7), 1);
        Check.due("it stays a message", x.count(2), 2);
        changesNothing(x, "a lost one", 0);
        Check.due("a lost one is received no more", x.receive(1, 0), 0);
        Check.due("nothing came of it", x.office(0, 1), 0);
        Check.due("receive(2, 1)", x.receive(2, 1), 1);
        changesNothing(x, "a received one", 1);
        for (int i : new int[] {-1, 2, 199, 200, 1000, Integer.MIN_VALUE, Integer.MAX_VALUE}) {
            changesNothing(x, "none such, " + i, i);
        }
        Check.end();
    }

    private static void changesNothing(TransitSteps x, String which, int message) {
        String before = Look.at(x);
        Check.no("lose of " + which, x.lose(message));
        Check.same("lose of " + which, before, Look.at(x));
    }
}
