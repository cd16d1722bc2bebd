public final class Promise02MovementTest {
    private static final int[] GOOD = {0, 1, 10, 77, 5, 1000};
    private static final String[] NAMES = {"from", "to", "limit", "seal", "pieces", "amount"};

    public static void main(String[] args) {
        beginsWithItsNumber();
        announces();
        officesThatAreNot();
        officesThatAreTheSame();
        limitAheadOfNow();
        limitAboveTheLastDay();
        sealThatCannotBe();
        piecesThatCannotBe();
        amountThatCannotBe();
        holdsTwenty();
        endedOnesMakeNoRoom();
        theOneToldFirstIsThrown();
        Check.end();
    }

    private static int begin(Run x, int... a) {
        return x.movement(a[0], a[1], a[2], a[3], a[4], a[5]);
    }

    private static int[] with(int argument, int value) {
        int[] a = GOOD.clone();
        a[argument] = value;
        return a;
    }

    private static void isTaken(int argument, int value) {
        Run x = new Run(3);
        begin(x, GOOD);
        Check.due("movement with " + NAMES[argument] + " " + value, begin(x, with(argument, value)), 1);
        Check.due("movements behind " + NAMES[argument] + " " + value, x.count(1), 2);
    }

    private static void isNotTaken(int argument, int value) {
        Run x = new Run(3);
        begin(x, GOOD);
        Check.refused(x, "movement with " + NAMES[argument] + " " + value, Check.ARGUMENT,
                () -> begin(x, with(argument, value)));
        Check.due("the next one's number", begin(x, GOOD), 1);
    }

    private static void farOff(int argument) {
        isNotTaken(argument, Integer.MIN_VALUE);
        isNotTaken(argument, Integer.MIN_VALUE + 1);
        isNotTaken(argument, Integer.MAX_VALUE);
    }

    private static void beginsWithItsNumber() {
        Check.sentence("A MOVEMENT begins: its number.");
        Run x = new Run(3);
        for (int m = 0; m < 20; m++) {
            Check.due("movement", x.movement(m % 3, (m + 1) % 3, m, m + 1, m + 1, m), m);
            Check.due("movements", x.count(1), m + 1);
            int number = m;
            Check.row("state(" + m + ") at first, what", what -> x.state(number, what),
                    1, 0, 0, 0, -1, -1, -1, -1, 0);
        }
    }

    private static void announces() {
        Check.sentence("ANNOUNCED, departure to destination, as the movement begins; values PIECES, LIMIT.");
        Run x = new Run(8);
        x.movement(2, 1, 10, 77, 5, 1000);
        x.movement(0, 7, 0, 1, 1, 0);
        x.movement(7, 0, 10000, 1000000000, 1000, 1000000);
        Check.due("messages", x.count(2), 3);
        Check.same("the first's announcement", " 1 0 2 1 5 10 0", Look.message(x, 0));
        Check.same("that of the lowest numbers", " 1 1 0 7 1 0 0", Look.message(x, 1));
        Check.same("that of the highest numbers", " 1 2 7 0 1000 10000 0", Look.message(x, 2));
        Check.row("nobody but the departure has it, office", office -> x.office(0, office), 0, 0, 1, 0, 0, 0, 0, 0);
    }

    private static void officesThatAreNot() {
        Check.sentence("IllegalArgumentException if there are no such offices");
        for (int argument = 0; argument <= 1; argument++) {
            isNotTaken(argument, -1);
            isTaken(argument, 2);
            isNotTaken(argument, 3);
            isNotTaken(argument, 8);
            farOff(argument);
        }
        Run x = new Run(3);
        Check.refused(x, "neither is", Check.ARGUMENT, () -> x.movement(-1, 3, 10, 77, 5, 1000));
        Check.due("from the first to the last", x.movement(0, 2, 10, 77, 5, 1000), 0);
        Check.due("from the last to the first", x.movement(2, 0, 10, 77, 5, 1000), 1);
    }

    private static void officesThatAreTheSame() {
        Check.sentence("they are the same");
        Run x = new Run(8);
        for (int office = 0; office < 8; office++) {
            int same = office;
            Check.refused(x, "from " + same + " to itself", Check.ARGUMENT, () -> x.movement(same, same, 10, 77, 5, 1000));
        }
        Check.refused(x, "from no office to itself", Check.ARGUMENT, () -> x.movement(8, 8, 10, 77, 5, 1000));
    }

    private static void limitAheadOfNow() {
        Check.sentence("the limit is ahead of NOW or above 10000");
        isNotTaken(2, -1);
        isTaken(2, 0);
        farOff(2);
        for (int now : new int[] {1, 2, 50, 9999, 10000}) {
            Run x = new Run(2);
            x.tick(now);
            Check.refused(x, "limit 0 on day " + now, Check.ARGUMENT, () -> x.movement(0, 1, 0, 1, 1, 1));
            Check.refused(x, "limit yesterday on day " + now, Check.ARGUMENT, () -> x.movement(0, 1, now - 1, 1, 1, 1));
            Check.due("limit today on day " + now, x.movement(0, 1, now, 1, 1, 1), 0);
        }
    }

    private static void limitAboveTheLastDay() {
        Check.sentence("the limit is ahead of NOW or above 10000");
        isTaken(2, 9999);
        isTaken(2, 10000);
        isNotTaken(2, 10001);
        Run x = new Run(2);
        x.tick(10000);
        Check.refused(x, "limit 10001 on the last day", Check.ARGUMENT, () -> x.movement(0, 1, 10001, 1, 1, 1));
        Check.due("limit 10000 on the last day", x.movement(0, 1, 10000, 1, 1, 1), 0);
    }

    private static void sealThatCannotBe() {
        Check.sentence("a SEAL (1 .. 1000000000)");
        isNotTaken(3, -1);
        isNotTaken(3, 0);
        isTaken(3, 1);
        isTaken(3, 1000000000);
        isNotTaken(3, 1000000001);
        farOff(3);
    }

    private static void piecesThatCannotBe() {
        Check.sentence("PIECES (1 .. 1000)");
        isNotTaken(4, -1);
        isNotTaken(4, 0);
        isTaken(4, 1);
        isTaken(4, 1000);
        isNotTaken(4, 1001);
        farOff(4);
    }

    private static void amountThatCannotBe() {
        Check.sentence("an AMOUNT that is secured (0 .. 1000000)");
        isNotTaken(5, -1);
        isTaken(5, 0);
        isTaken(5, 1000000);
        isNotTaken(5, 1000001);
        farOff(5);
    }

    private static Run twenty() {
        Run x = new Run(2);
        for (int m = 0; m < 20; m++) {
            Check.due("movement", x.movement(0, 1, 10, 77, 5, 1000), m);
        }
        return x;
    }

    private static void holdsTwenty() {
        Check.sentence("IllegalStateException if there are 20.");
        Run x = twenty();
        Check.refused(x, "the 21st", Check.STATE, () -> x.movement(0, 1, 10, 77, 5, 1000));
        Check.refused(x, "the 21st again", Check.STATE, () -> x.movement(1, 0, 10000, 1, 1, 0));
        Check.due("movements", x.count(1), 20);
        Check.due("messages", x.count(2), 20);
    }

    private static void endedOnesMakeNoRoom() {
        Check.sentence("IllegalStateException if there are 20.");
        Run x = twenty();
        x.proof(0);
        x.proof(19);
        Check.refused(x, "the 21st when two are DISCHARGED", Check.STATE, () -> x.movement(0, 1, 10, 77, 5, 1000));
        x.tick(50);
        Check.due("ended", x.count(6), 20);
        Check.refused(x, "the 21st when all have ended", Check.STATE, () -> x.movement(0, 1, 50, 77, 5, 1000));
    }

    private static void theOneToldFirstIsThrown() {
        Check.sentence("Of several exceptions the one told first is thrown.");
        int[][] bad = {
            {0, -1}, {0, 2}, {1, -1}, {1, 2}, {1, 0}, {2, -1}, {2, 10001}, {3, 0}, {3, 1000000001},
            {4, 0}, {4, 1001}, {5, -1}, {5, 1000001},
        };
        Run x = twenty();
        for (int[] one : bad) {
            Check.refused(x, "the 21st with " + NAMES[one[0]] + " " + one[1], Check.ARGUMENT,
                    () -> begin(x, with(one[0], one[1])));
        }
        x.tick(11);
        Check.refused(x, "the 21st with its limit yesterday", Check.ARGUMENT, () -> begin(x, GOOD));
    }
}
