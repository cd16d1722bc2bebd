public final class Promise03ArriveTest {
    public static void main(String[] args) {
        arrivesAtTheDestination();
        arrivesElsewhere();
        isLateBehindTheLimit();
        isRefused();
        arrivesThoughRecovered();
        throwsForWrongInputs();
        Check.end();
    }

    private static TransitSteps oneMovement() {
        TransitSteps x = new TransitSteps(4);
        x.movement(1, 2, 10, 77, 5, 1000);
        return x;
    }

    private static void arrivesAtTheDestination() {
        TransitSteps x = oneMovement();
        Check.due("arrive(0, 2, 70)", x.arrive(0, 2, 70), 1);
        Check.due("one message more", x.count(2), 2);
        Check.same("ARRIVED", " 2 0 2 1 70 0 0", Look.message(x, 1));
        Check.due("the goods are there", x.office(0, 2), 8);
        Check.due("the departure does not know yet", x.state(0, 0), 1);
        Check.due("nor the seal", x.state(0, 4), -1);
    }

    private static void arrivesElsewhere() {
        TransitSteps x = oneMovement();
        Check.due("arrive(0, 3, 77)", x.arrive(0, 3, 77), 1);
        Check.due("two messages more", x.count(2), 3);
        Check.same("ARRIVED goes first", " 2 0 3 1 77 0 0", Look.message(x, 1));
        Check.same("ELSEWHERE behind it", " 6 0 3 2 3 0 0", Look.message(x, 2));
        Check.due("the goods are there", x.office(0, 3), 8);
        Check.due("and not at the destination", x.office(0, 2), 0);
    }

    private static void isLateBehindTheLimit() {
        TransitSteps x = new TransitSteps(3);
        x.movement(0, 1, 4, 9, 5, 100);
        x.movement(0, 1, 5, 9, 5, 100);
        x.tick(5);
        x.arrive(0, 1, 9);
        x.arrive(1, 1, 9);
        Check.due("LATE a day behind the limit", x.message(2, 5), 1);
        Check.due("not LATE on the limit", x.message(3, 5), 0);
    }

    private static void isRefused() {
        TransitSteps x = oneMovement();
        refusedByNought(x, "at the departure", 1);
        x.arrive(0, 2, 77);
        refusedByNought(x, "again at the same office", 2);
        refusedByNought(x, "again elsewhere", 3);
        refusedByNought(x, "again at the departure", 1);
        TransitSteps y = oneMovement();
        y.proof(0);
        refusedByNought(y, "when DISCHARGED", 2);
    }

    private static void refusedByNought(TransitSteps x, String when, int office) {
        String before = Look.at(x);
        Check.due("arrive " + when, x.arrive(0, office, 5), 0);
        Check.same("arrive " + when, before, Look.at(x));
    }

    private static void arrivesThoughRecovered() {
        TransitSteps x = oneMovement();
        x.tick(50);
        Check.due("RECOVERED", x.state(0, 0), 5);
        Check.due("arrive when RECOVERED", x.arrive(0, 2, 77), 1);
        Check.due("receive(1, 4)", x.receive(1, 4), 1);
        Check.due("still RECOVERED", x.state(0, 0), 5);
        Check.due("known as LATE", x.state(0, 5), 1);
    }

    private static void throwsForWrongInputs() {
        TransitSteps x = oneMovement();
        for (int m : new int[] {-1, 1, 20, Integer.MIN_VALUE, Integer.MAX_VALUE}) {
            Check.refused(x, "arrive(" + m + ", 2, 1)", Check.ARGUMENT, () -> x.arrive(m, 2, 1));
        }
        for (int office : new int[] {-1, 4, 8, Integer.MIN_VALUE, Integer.MAX_VALUE}) {
            Check.refused(x, "arrive(0, " + office + ", 1)", Check.ARGUMENT, () -> x.arrive(0, office, 1));
        }
        for (int seal : new int[] {-1, 1000000001, Integer.MIN_VALUE, Integer.MAX_VALUE}) {
            Check.refused(x, "arrive(0, 2, " + seal + ")", Check.ARGUMENT, () -> x.arrive(0, 2, seal));
            Check.refused(x, "arrive at the departure with seal " + seal, Check.ARGUMENT, () -> x.arrive(0, 1, seal));
        }
        x.proof(0);
        Check.refused(x, "a wrong seal when DISCHARGED", Check.ARGUMENT, () -> x.arrive(0, 2, -1));
        TransitSteps y = oneMovement();
        y.movement(1, 2, 10, 77, 5, 1000);
        Check.due("no seal at all", y.arrive(0, 2, 0), 1);
        Check.due("the highest seal", y.arrive(1, 2, 1000000000), 1);
        Check.due("told as 0", y.message(2, 4), 0);
        Check.due("told as the highest", y.message(3, 4), 1000000000);
    }
}
