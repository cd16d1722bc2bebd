public final class Promise09ProofTest {
    public static void main(String[] args) {
        endsWhatHasNotEnded();
        undoesARecoveryInTime();
        comesTooLate();
        onceIsEnough();
        throwsForWrongInputs();
        Check.end();
    }

    private static TransitSteps oneMovement() {
        TransitSteps x = new TransitSteps(3);
        x.movement(0, 1, 10, 77, 10, 1000);
        return x;
    }

    private static void endsWhatHasNotEnded() {
        TransitSteps x = oneMovement();
        ends(x, "ON THE WAY", 0);
        x = oneMovement();
        x.tick(49);
        ends(x, "ENQUIRED", 0);
        x = oneMovement();
        x.arrive(0, 1, 77);
        x.receive(0, 1);
        ends(x, "ARRIVED", 0);
        x = oneMovement();
        x.arrive(0, 1, 77);
        x.control(0, 4);
        x.receive(0, 2);
        ends(x, "DIFFERS", 4);
    }

    private static void ends(TransitSteps x, String when, int accounted) {
        int messages = x.count(2);
        Check.due("proof when " + when, x.proof(0), 1);
        Check.due("DISCHARGED when " + when, x.state(0, 0), 6);
        Check.due("ACCOUNTED stays when " + when, x.state(0, 1), accounted);
        Check.due("nothing RECOVERED when " + when, x.state(0, 2), 0);
        Check.due("RESERVED when " + when, x.count(4), 0);
        Check.due("ended when " + when, x.count(6), 1);
        Check.due("messages when " + when, x.count(2), messages);
        Check.due("no enquiry behind it when " + when, x.tick(1000), 0);
        Check.due("no recovery behind it when " + when, x.state(0, 0), 6);
    }

    private static void undoesARecoveryInTime() {
        for (int day : new int[] {50, 51, 79, 80}) {
            TransitSteps x = oneMovement();
            x.tick(day);
            Check.due("RECOVERED on day " + day, x.count(5), 1000);
            Check.due("proof on day " + day, x.proof(0), 2);
            Check.due("DISCHARGED", x.state(0, 0), 6);
            Check.due("the recovery falls", x.state(0, 2), 0);
            Check.due("in the sum too", x.count(5), 0);
            Check.due("ended", x.count(6), 1);
            Check.due("RESERVED", x.count(4), 0);
        }
    }

    private static void comesTooLate() {
        for (int day : new int[] {81, 82, 10000}) {
            TransitSteps x = oneMovement();
            x.tick(day);
            String before = Look.at(x);
            Check.due("proof on day " + day, x.proof(0), 0);
            Check.same("proof on day " + day, before, Look.at(x));
            Check.due("what was RECOVERED stays", x.count(5), 1000);
        }
    }

    private static void onceIsEnough() {
        TransitSteps x = oneMovement();
        x.proof(0);
        String before = Look.at(x);
        Check.due("proof of a DISCHARGED one", x.proof(0), 0);
        Check.same("proof of a DISCHARGED one", before, Look.at(x));
    }

    private static void throwsForWrongInputs() {
        TransitSteps x = oneMovement();
        for (int m : new int[] {-1, 1, 19, 20, Integer.MIN_VALUE, Integer.MAX_VALUE}) {
            Check.refused(x, "proof(" + m + ")", Check.ARGUMENT, () -> x.proof(m));
        }
        TransitSteps none = new TransitSteps(3);
        Check.refused(none, "proof(0) of none", Check.ARGUMENT, () -> none.proof(0));
    }
}
