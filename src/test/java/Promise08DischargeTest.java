public final class Promise08DischargeTest {
    public static void main(String[] args) {
        accountsForPieces();
        endsInOneStep();
        onlyWhatDiffers();
        nothingLeftToAccountFor();
        throwsForWrongInputs();
        Check.end();
    }

    /** 10 pieces of which the departure knows that so many were FOUND. */
    private static TransitSteps differing(int found) {
        TransitSteps x = new TransitSteps(3);
        x.movement(0, 1, 10, 77, 10, 1000);
        x.arrive(0, 1, 77);
        x.control(0, found);
        x.receive(0, 2);
        return x;
    }

    private static void refused(TransitSteps x, String when, int n) {
        String before = Look.at(x);
        Check.due("discharge of " + n + " " + when, x.discharge(0, n), -1);
        Check.same("discharge of " + n + " " + when, before, Look.at(x));
    }

    private static void accountsForPieces() {
        TransitSteps x = differing(4);
        refused(x, "with 6 left", 7);
        refused(x, "with 6 left", Integer.MAX_VALUE);
        Check.due("discharge(0, 1)", x.discharge(0, 1), 5);
        Check.due("ACCOUNTED", x.state(0, 1), 5);
        Check.due("still DIFFERS", x.state(0, 0), 3);
        Check.due("FOUND as known stays", x.state(0, 6), 4);
        Check.due("still RESERVED", x.count(4), 1000);
        refused(x, "with 5 left", 6);
        Check.due("discharge(0, 5)", x.discharge(0, 5), 0);
        Check.due("DISCHARGED", x.state(0, 0), 6);
        Check.due("ACCOUNTED", x.state(0, 1), 10);
        Check.due("RESERVED no more", x.count(4), 0);
        Check.due("ended", x.count(6), 1);
        refused(x, "when DISCHARGED", 1);
        Check.due("no message came of it", x.count(2), 3);
    }

    private static void endsInOneStep() {
        TransitSteps x = differing(0);
        Check.due("discharge(0, 10)", x.discharge(0, 10), 0);
        Check.due("DISCHARGED", x.state(0, 0), 6);
    }

    private static void onlyWhatDiffers() {
        TransitSteps x = new TransitSteps(3);
        x.movement(0, 1, 10, 77, 10, 1000);
        refused(x, "ON THE WAY", 1);
        x.tick(20);
        refused(x, "when ENQUIRED", 1);
        x.arrive(0, 1, 77);
        x.receive(0, 2);
        refused(x, "when ARRIVED", 1);
        x.control(0, 5);
        refused(x, "when the RESULT was not received", 1);
        x.tick(50);
        refused(x, "when RECOVERED", 1);
    }

    private static void nothingLeftToAccountFor() {
        TransitSteps x = differing(11);
        Check.due("DIFFERS", x.state(0, 0), 3);
        refused(x, "with none left", 1);
    }

    private static void throwsForWrongInputs() {
        TransitSteps x = differing(4);
        for (int n : new int[] {0, -1, Integer.MIN_VALUE}) {
            Check.refused(x, "discharge(0, " + n + ")", Check.ARGUMENT, () -> x.discharge(0, n));
        }
        for (int m : new int[] {-1, 1, 20, Integer.MIN_VALUE, Integer.MAX_VALUE}) {
            Check.refused(x, "discharge(" + m + ", 1)", Check.ARGUMENT, () -> x.discharge(m, 1));
        }
        x.proof(0);
        Check.refused(x, "discharge(0, 0) when DISCHARGED", Check.ARGUMENT, () -> x.discharge(0, 0));
    }
}
