public final class Promise09ProofTest {
    public static void main(String[] args) {
        endsWhatHasNotEnded();
        endsOnTheDayAheadOfRecovery();
        undoesARecoveryInTime();
        comesTooLate();
        isLateAtTheEndOfTime();
        elseNought();
        keepsWhatWasAccountedFor();
        noSuchMovement();
        Check.end();
    }

    private static void endsWhatHasNotEnded() {
        Check.sentence("1: a movement that has not ended is DISCHARGED");
        for (Scene scene : new Scene[] {Scene.ON_THE_WAY, Scene.ENQUIRED, Scene.ARRIVED, Scene.DIFFERS}) {
            Run x = scene.make();
            String known = Look.movement(x, 0).substring(2);
            int messages = x.count(2);
            Check.due(scene + ": proof", x.proof(0), 1);
            Check.same(scene + ": STATE alone changes", " 6" + known, Look.movement(x, 0));
            Check.due(scene + ": RESERVED", x.count(4), 0);
            Check.due(scene + ": RECOVERED", x.count(5), 0);
            Check.due(scene + ": ended", x.count(6), 1);
            Check.due(scene + ": messages", x.count(2), messages);
        }
    }

    private static void endsOnTheDayAheadOfRecovery() {
        Check.sentence("1: a movement that has not ended is DISCHARGED");
        Run x = Scene.begun();
        x.tick(Scene.LIMIT + 39);
        Check.due("proof 39 days behind", x.proof(0), 1);
        x.tick(Scene.LIMIT + 40);
        Check.due("no recovery behind that", x.count(5), 0);
        Check.due("DISCHARGED", x.state(0, 0), 6);
        Run y = new Run(2);
        y.movement(0, 1, 9961, 1, 1, 1);
        y.movement(0, 1, 10000, 1, 1, 1);
        y.tick(10000);
        Check.due("proof 39 days behind, on the last day", y.proof(0), 1);
        Check.due("proof on the limit, on the last day", y.proof(1), 1);
    }

    private static void fallsOn(int limit, int day) {
        Run x = new Run(3);
        x.movement(0, 1, limit, 77, 10, 1000);
        x.tick(day);
        String when = " on day " + day + ", limit " + limit;
        Check.due("RECOVERED" + when, x.state(0, 0), 5);
        Check.due("sum" + when, x.count(5), 1000);
        Check.due("proof" + when, x.proof(0), 2);
        Check.same("the movement" + when, " 6 0 0 3 -1 -1 -1 -1 0 offices 1 0 0", Look.movement(x, 0));
        Check.due("sum behind it" + when, x.count(5), 0);
        Check.due("ended" + when, x.count(6), 1);
        Check.due("RESERVED" + when, x.count(4), 0);
        Check.idle(x, "proof again" + when, 0, () -> x.proof(0));
    }

    private static void staysOn(int limit, int day) {
        Run x = new Run(3);
        x.movement(0, 1, limit, 77, 10, 1000);
        x.tick(day);
        Check.idle(x, "proof on day " + day + ", limit " + limit, 0, () -> x.proof(0));
        Check.due("what was RECOVERED stays", x.state(0, 2), 1000);
        Check.due("RECOVERED stays", x.state(0, 0), 5);
    }

    private static void undoesARecoveryInTime() {
        Check.sentence("2: one that is RECOVERED, up to 70 days behind its LIMIT, is DISCHARGED, the recovery falls");
        for (int behind : new int[] {40, 41, 69, 70}) {
            fallsOn(10, 10 + behind);
            fallsOn(0, behind);
        }
    }

    private static void comesTooLate() {
        Check.sentence("2: one that is RECOVERED, up to 70 days behind its LIMIT, is DISCHARGED, the recovery falls");
        for (int behind : new int[] {71, 72, 100}) {
            staysOn(10, 10 + behind);
            staysOn(0, behind);
        }
        staysOn(0, 10000);
    }

    private static void isLateAtTheEndOfTime() {
        Check.sentence("2: one that is RECOVERED, up to 70 days behind its LIMIT, is DISCHARGED, the recovery falls");
        staysOn(9929, 10000);
        fallsOn(9930, 10000);
        fallsOn(9960, 10000);
    }

    private static void elseNought() {
        Check.sentence("else 0");
        for (Scene scene : Scene.values()) {
            if (scene.state == 6) {
                Run x = scene.make();
                Check.idle(x, scene + ": proof", 0, () -> x.proof(0));
            }
        }
    }

    private static void keepsWhatWasAccountedFor() {
        Check.sentence("5 and 6 END it (but for a proof in time, below).");
        Run x = Scene.DIFFERS.make();
        x.discharge(0, 1);
        x.tick(50);
        Check.same("RECOVERED", " 5 4 200 0 77 -1 3 2 0 offices 0 1 24 0", Look.movement(x, 0));
        Check.due("proof", x.proof(0), 2);
        Check.same("DISCHARGED", " 6 4 0 0 77 -1 3 2 0 offices 0 1 24 0", Look.movement(x, 0));
    }

    private static void noSuchMovement() {
        Check.sentence("IllegalArgumentException if there is no such movement.");
        Run none = new Run(3);
        Check.refused(none, "proof(0) of none", Check.ARGUMENT, () -> none.proof(0));
        Run x = Scene.begun();
        for (int m : new int[] {-1, 1, 19, 20, Integer.MIN_VALUE, Integer.MAX_VALUE}) {
            Check.refused(x, "proof(" + m + ")", Check.ARGUMENT, () -> x.proof(m));
        }
        Check.due("proof(0)", x.proof(0), 1);
    }
}
