public final class Promise04ControlTest {
    public static void main(String[] args) {
        sendsTheResult();
        isDoneElsewhereToo();
        isRefused();
        isDoneThoughEnded();
        throwsForWrongInputs();
        Check.end();
    }

    private static TransitSteps oneMovement() {
        TransitSteps x = new TransitSteps(4);
        x.movement(1, 2, 10, 77, 5, 1000);
        return x;
    }

    private static void sendsTheResult() {
        TransitSteps x = oneMovement();
        x.arrive(0, 2, 70);
        Check.due("control(0, 3)", x.control(0, 3), 1);
        Check.due("one message more", x.count(2), 3);
        Check.same("RESULT", " 3 0 2 1 3 70 0", Look.message(x, 2));
        Check.due("controlled there", x.office(0, 2), 24);
        Check.due("the departure does not know yet", x.state(0, 6), -1);
        Check.due("nothing accounted for yet", x.state(0, 1), 0);
    }

    private static void isDoneElsewhereToo() {
        TransitSteps x = oneMovement();
        x.arrive(0, 0, 77);
        Check.due("control(0, 0)", x.control(0, 0), 1);
        Check.same("RESULT from elsewhere", " 3 0 0 1 0 77 0", Look.message(x, 3));
        Check.due("controlled there", x.office(0, 0), 24);
        Check.due("not at the destination", x.office(0, 2), 0);
        Check.due("none FOUND is FOUND all the same", x.control(0, 1), 0);
    }

    private static void isRefused() {
        TransitSteps x = oneMovement();
        refusedByNought(x, "before arrival");
        x.arrive(0, 2, 77);
        x.control(0, 5);
        refusedByNought(x, "a second time");
    }

    private static void refusedByNought(TransitSteps x, String when) {
        String before = Look.at(x);
        Check.due("control " + when, x.control(0, 4), 0);
        Check.same("control " + when, before, Look.at(x));
    }

    private static void isDoneThoughEnded() {
        TransitSteps x = oneMovement();
        x.arrive(0, 2, 77);
        x.proof(0);
        Check.due("control when DISCHARGED", x.control(0, 4), 1);
        Check.due("its RESULT", x.message(2, 0), 3);
        Check.due("receive it", x.receive(1, 2), 1);
        Check.due("FOUND is known", x.state(0, 6), 4);
        Check.due("nothing is accounted for", x.state(0, 1), 0);
        Check.due("still DISCHARGED", x.state(0, 0), 6);
        TransitSteps y = oneMovement();
        y.arrive(0, 2, 77);
        y.tick(50);
        Check.due("RECOVERED", y.state(0, 0), 5);
        Check.due("control when RECOVERED", y.control(0, 4), 1);
    }

    private static void throwsForWrongInputs() {
        TransitSteps x = oneMovement();
        for (int found : new int[] {-1, 1001, Integer.MIN_VALUE, Integer.MAX_VALUE}) {
            Check.refused(x, "control(0, " + found + ") before arrival", Check.ARGUMENT, () -> x.control(0, found));
        }
        x.arrive(0, 2, 77);
        for (int found : new int[] {-1, 1001, Integer.MIN_VALUE, Integer.MAX_VALUE}) {
            Check.refused(x, "control(0, " + found + ")", Check.ARGUMENT, () -> x.control(0, found));
        }
        for (int m : new int[] {-1, 1, 20, Integer.MIN_VALUE, Integer.MAX_VALUE}) {
            Check.refused(x, "control(" + m + ", 1)", Check.ARGUMENT, () -> x.control(m, 1));
        }
        Check.due("1000 FOUND", x.control(0, 1000), 1);
        Check.due("told as 1000", x.message(2, 4), 1000);
    }
}
