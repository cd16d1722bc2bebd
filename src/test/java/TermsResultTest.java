/** What ARRIVED and RESULT make of a movement, wherever it stands. */
public final class TermsResultTest {
    private static final int[] FOUND = {0, 1, 4, 5, 6, 1000};

    public static void main(String[] args) {
        arrivedIsKnown();
        arrivedOfOnTheWayAndEnquired();
        arrivedLeavesOtherStates();
        resultIsJustPieces();
        resultByTheSeal();
        resultAtBothEndsOfPieces();
        resultFromEachOpenState();
        resultTwiceTakesNothingBack();
        resultOfAnEndedMovement();
        resultAheadOfArrived();
        accountedIsPiecesAtMost();
        Check.end();
    }

    private static void receive(Run x, int message) {
        Check.due("receive(1, " + message + ")", x.receive(1, message), 1);
    }

    private static void arrivedIsKnown() {
        Check.sentence("Received: these two are known");
        Run x = Scene.begun();
        x.arrive(0, 2, 0);
        Check.same("until told", " 1 0 0 0 -1 -1 -1 -1 0 offices 0 1 8 0", Look.movement(x, 0));
        receive(x, 1);
        Check.same("no seal at all, in time", " 2 0 0 0 0 0 -1 -1 1 offices 0 1 8 0", Look.movement(x, 0));
        Check.due("no message comes of it", x.count(2), 2);
        Run y = Scene.begun();
        y.tick(11);
        y.arrive(0, 3, 77);
        receive(y, 1);
        Check.same("elsewhere, its seal, LATE", " 2 0 0 0 77 1 -1 -1 0 offices 0 1 0 8", Look.movement(y, 0));
    }

    private static void arrivedOfOnTheWayAndEnquired() {
        Check.sentence("ON THE WAY and ENQUIRED become ARRIVED");
        Run x = Scene.ON_THE_WAY.make();
        x.arrive(0, 2, 77);
        receive(x, 1);
        Check.due("from ON THE WAY", x.state(0, 0), 2);
        Run y = Scene.ENQUIRED.make();
        y.arrive(0, 2, 77);
        receive(y, 2);
        Check.due("from ENQUIRED", y.state(0, 0), 2);
    }

    private static void arrivedLeavesOtherStates() {
        Check.sentence("ON THE WAY and ENQUIRED become ARRIVED");
        Run arrived = Scene.ENQUIRED.make();
        arrived.arrive(0, 2, 70);
        arrived.receive(2, 1);
        receive(arrived, 2);
        String before = Look.movement(arrived, 0);
        receive(arrived, 3);
        Check.same("ARRIVED twice", before, Look.movement(arrived, 0));

        Run differs = Scene.DIFFERS.make();
        receive(differs, 1);
        Check.same("DIFFERS", " 3 3 0 0 77 0 3 2 0 offices 0 1 24 0", Look.movement(differs, 0));

        Run recovered = Scene.RECOVERED.make();
        recovered.arrive(0, 2, 70);
        receive(recovered, 4);
        Check.same("RECOVERED", " 5 0 1000 3 70 1 -1 -1 1 offices 0 1 8 0", Look.movement(recovered, 0));

        Run byResult = Scene.DISCHARGED_BY_RESULT.make();
        receive(byResult, 1);
        Check.same("DISCHARGED by RESULT", " 6 5 0 0 77 0 5 0 0 offices 0 1 24 0", Look.movement(byResult, 0));

        Run byPieces = Scene.DISCHARGED_BY_PIECES.make();
        receive(byPieces, 1);
        Check.same("DISCHARGED by pieces", " 6 5 0 0 77 0 3 2 0 offices 0 1 24 0", Look.movement(byPieces, 0));

        Run byProof = Scene.begun();
        byProof.arrive(0, 3, 77);
        byProof.proof(0);
        receive(byProof, 1);
        Check.same("DISCHARGED by proof", " 6 0 0 0 77 0 -1 -1 0 offices 0 1 0 8", Look.movement(byProof, 0));
    }

    /** A movement of so many pieces under seal 77, of which so many were found under a seal, and that is told. */
    private static Run told(int pieces, int seal, int found) {
        Run x = new Run(4);
        x.movement(1, 2, 10, 77, pieces, 1000);
        x.arrive(0, 2, seal);
        x.control(0, found);
        receive(x, 2);
        return x;
    }

    private static void isIn(Run x, String when, int state, int accounted) {
        Check.due(when + ": STATE", x.state(0, 0), state);
        Check.due(when + ": ACCOUNTED", x.state(0, 1), accounted);
        Check.due(when + ": RESERVED", x.count(4), state == 6 ? 0 : 1000);
        Check.due(when + ": ended", x.count(6), state == 6 ? 1 : 0);
    }

    private static void resultIsJustPieces() {
        Check.sentence("it is DISCHARGED if the seal is the movement's and FOUND is just PIECES, else it DIFFERS");
        isIn(told(5, 77, 4), "one too few", 3, 4);
        isIn(told(5, 77, 5), "just PIECES", 6, 5);
        isIn(told(5, 77, 6), "one too many", 3, 5);
        isIn(told(5, 77, 0), "none", 3, 0);
        isIn(told(5, 77, 1000), "as many as can be", 3, 5);
    }

    private static void resultByTheSeal() {
        Check.sentence("it is DISCHARGED if the seal is the movement's and FOUND is just PIECES, else it DIFFERS");
        for (int seal : new int[] {0, 1, 76, 78, 1000000000}) {
            isIn(told(5, seal, 5), "all of them under seal " + seal, 3, 5);
            isIn(told(5, seal, 4), "one too few under seal " + seal, 3, 4);
        }
    }

    private static void resultAtBothEndsOfPieces() {
        Check.sentence("it is DISCHARGED if the seal is the movement's and FOUND is just PIECES, else it DIFFERS");
        isIn(told(1, 77, 0), "none of one", 3, 0);
        isIn(told(1, 77, 1), "the one", 6, 1);
        isIn(told(1, 77, 2), "two of one", 3, 1);
        isIn(told(999, 77, 1000), "1000 of 999", 3, 999);
        isIn(told(1000, 77, 999), "999 of 1000", 3, 999);
        isIn(told(1000, 77, 1000), "all of 1000", 6, 1000);
    }

    private static void resultFromEachOpenState() {
        Check.sentence("of a movement that has not ended: the pieces ACCOUNTED for are FOUND at least (not more than PIECES)");
        for (Scene scene : new Scene[] {Scene.ON_THE_WAY, Scene.ENQUIRED, Scene.ARRIVED}) {
            for (int found : FOUND) {
                Run x = scene.make();
                x.arrive(0, 2, 77);
                int message = x.count(2);
                x.control(0, found);
                receive(x, message);
                isIn(x, scene + ", found " + found, found == 5 ? 6 : 3, Math.min(found, 5));
                Check.due(scene + ": FOUND as known", x.state(0, 6), found);
                Check.due(scene + ": the seal as known", x.state(0, 4), 77);
                Check.due(scene + ": no message comes of it", x.count(2), message + 1);
            }
        }
    }

    /** A RESULT that comes a second time, by an enquiry, when pieces were accounted for since. */
    private static void resultTwiceTakesNothingBack() {
        Check.sentence("the pieces ACCOUNTED for are FOUND at least (not more than PIECES)");
        for (int accounted = 0; accounted <= 2; accounted++) {
            Run x = Scene.ENQUIRED.make();
            x.arrive(0, 2, 77);
            x.control(0, 2);
            Check.due("the enquiry", x.receive(2, 1), 1);
            receive(x, 3);
            isIn(x, "the first RESULT", 3, 2);
            if (accounted > 0) {
                Check.due("discharge", x.discharge(0, accounted), 3 - accounted);
            }
            receive(x, 4);
            isIn(x, "the second RESULT behind " + accounted, 3, 2 + accounted);
            Check.due("left", x.discharge(0, 3 - accounted), 0);
        }
    }

    private static void resultOfAnEndedMovement() {
        Check.sentence("Received: the seal and FOUND are known; of a movement that has not ended");
        for (int found : FOUND) {
            for (int seal : new int[] {70, 77}) {
                int differs = seal == 77 ? 0 : 1;
                String known = seal + " -1 " + found + " " + (5 - found) + " " + differs + " offices 0 1 24 0";
                Run recovered = Scene.begun();
                recovered.arrive(0, 2, seal);
                recovered.control(0, found);
                recovered.tick(50);
                receive(recovered, 2);
                Check.same("RECOVERED", " 5 0 1000 3 " + known, Look.movement(recovered, 0));
                Run discharged = Scene.begun();
                discharged.arrive(0, 2, seal);
                discharged.control(0, found);
                discharged.proof(0);
                receive(discharged, 2);
                Check.same("DISCHARGED", " 6 0 0 0 " + known, Look.movement(discharged, 0));
            }
        }
        Run byPieces = Scene.ENQUIRED.make();
        byPieces.arrive(0, 2, 77);
        byPieces.control(0, 2);
        byPieces.receive(2, 1);
        receive(byPieces, 3);
        byPieces.discharge(0, 3);
        String before = Look.movement(byPieces, 0);
        receive(byPieces, 4);
        Check.same("RESULT again when DISCHARGED by pieces", before, Look.movement(byPieces, 0));
    }

    private static void resultAheadOfArrived() {
        Check.sentence("4 to 7: NONE until told");
        Run x = Scene.begun();
        x.arrive(0, 3, 70);
        x.control(0, 5);
        receive(x, 3);
        Check.same("RESULT alone tells no LATE", " 3 5 0 0 70 -1 5 0 1 offices 0 1 0 24", Look.movement(x, 0));
        receive(x, 1);
        Check.same("ARRIVED behind it does", " 3 5 0 0 70 0 5 0 1 offices 0 1 0 24", Look.movement(x, 0));
    }

    private static void accountedIsPiecesAtMost() {
        Check.sentence("how many are ACCOUNTED for (0 at first, PIECES at most)");
        Run x = Scene.begun();
        Check.due("at first", x.state(0, 1), 0);
        isIn(told(5, 77, 1000), "more than PIECES", 3, 5);
        Run y = told(5, 77, 4);
        Check.due("more than are left", y.discharge(0, 2), -1);
        Check.due("ACCOUNTED", y.state(0, 1), 4);
        Check.due("the last", y.discharge(0, 1), 0);
        Check.due("ACCOUNTED", y.state(0, 1), 5);
        Check.due("beyond the last", y.discharge(0, 1), -1);
        Check.due("ACCOUNTED", y.state(0, 1), 5);
    }
}
