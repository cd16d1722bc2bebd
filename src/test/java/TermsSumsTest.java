/** RESERVED, and what is RECOVERED of a movement. */
public final class TermsSumsTest {
    public static void main(String[] args) {
        reservedUntilItEnds();
        recoveredIsRoundedUp();
        recoveredAtTheEndsOfItsNumbers();
        recoveredByWhatWasAccountedForThen();
        recoveredFalls();
        sumOfSeveral();
        Check.end();
    }

    private static void reservedUntilItEnds() {
        Check.sentence("RESERVED is the sum of AMOUNTS of movements that have not ended.");
        for (Scene scene : Scene.values()) {
            Run x = scene.make();
            Check.due(scene + ": RESERVED", x.count(4), scene.hasEnded() ? 0 : Scene.AMOUNT);
            Check.due(scene + ": ended", x.count(6), scene.hasEnded() ? 1 : 0);
            x.movement(0, 1, 9000, 5, 5, 37);
            Check.due(scene + ": RESERVED with another", x.count(4), scene.hasEnded() ? 37 : Scene.AMOUNT + 37);
        }
    }

    private static void isRecovered(int amount, int pieces, int accounted, int due) {
        Run x = new Run(2);
        x.movement(0, 1, 0, 9, pieces, amount);
        x.arrive(0, 1, 8);
        x.control(0, accounted);
        x.receive(0, 2);
        Check.due("ACCOUNTED", x.state(0, 1), accounted);
        x.tick(40);
        String of = amount + " secured, " + accounted + " of " + pieces + ": ";
        Check.due(of + "RECOVERED", x.state(0, 2), due);
        Check.due(of + "the sum", x.count(5), due);
        Check.due(of + "STATE", x.state(0, 0), 5);
    }

    private static void recoveredIsRoundedUp() {
        Check.sentence("AMOUNT * (PIECES - ACCOUNTED) / PIECES, rounded up");
        isRecovered(10, 3, 0, 10);
        isRecovered(10, 3, 1, 7);
        isRecovered(10, 3, 2, 4);
        isRecovered(10, 3, 3, 0);
        isRecovered(9, 3, 1, 6);
        isRecovered(9, 3, 2, 3);
        isRecovered(8, 3, 1, 6);
        isRecovered(8, 3, 2, 3);
        isRecovered(10, 10, 5, 5);
        isRecovered(11, 10, 5, 6);
        isRecovered(1, 7, 6, 1);
        isRecovered(7, 2, 1, 4);
    }

    private static void recoveredAtTheEndsOfItsNumbers() {
        Check.sentence("AMOUNT * (PIECES - ACCOUNTED) / PIECES, rounded up");
        isRecovered(0, 1, 0, 0);
        isRecovered(0, 7, 6, 0);
        isRecovered(0, 1000, 0, 0);
        isRecovered(1, 1, 0, 1);
        isRecovered(1, 1, 1, 0);
        isRecovered(1, 1000, 0, 1);
        isRecovered(1, 1000, 999, 1);
        isRecovered(1, 1000, 1000, 0);
        isRecovered(1000000, 1, 0, 1000000);
        isRecovered(1000000, 1000, 0, 1000000);
        isRecovered(1000000, 1000, 1, 999000);
        isRecovered(1000000, 1000, 999, 1000);
        isRecovered(1000000, 999, 1, 998999);
        isRecovered(1000000, 999, 998, 1002);
        isRecovered(999999, 1000, 1, 999000);
        isRecovered(999999, 1000, 999, 1000);
        isRecovered(999999, 1000, 0, 999999);
    }

    private static void recoveredByWhatWasAccountedForThen() {
        Check.sentence("by what was accounted for when it was recovered");
        Run x = Scene.DIFFERS.make();
        Check.due("one more ahead of it", x.discharge(0, 1), 1);
        x.tick(50);
        Check.due("a fifth is RECOVERED", x.state(0, 2), 200);
        Check.due("none more behind it", x.discharge(0, 1), -1);
        Check.due("a fifth stays RECOVERED", x.state(0, 2), 200);
        Run y = Scene.begun();
        y.arrive(0, 2, 77);
        y.control(0, 5);
        y.tick(50);
        Check.due("not told: all is RECOVERED", y.state(0, 2), 1000);
        y.receive(1, 2);
        Check.due("told behind it: all stays RECOVERED", y.state(0, 2), 1000);
        Check.due("nothing is accounted for", y.state(0, 1), 0);
        Run z = Scene.begun();
        z.arrive(0, 2, 77);
        z.control(0, 5);
        z.tick(49);
        z.receive(1, 2);
        z.tick(50);
        Check.due("told the day ahead of it: nothing is", z.count(5), 0);
    }

    private static void recoveredFalls() {
        Check.sentence("0 again if that falls");
        Run x = Scene.DIFFERS.make();
        x.tick(50);
        Check.due("two fifths", x.state(0, 2), 400);
        Check.due("proof", x.proof(0), 2);
        Check.due("0 again", x.state(0, 2), 0);
        Check.due("in the sum too", x.count(5), 0);
        x.tick(10000);
        Check.due("and for good", x.count(5), 0);
    }

    private static void sumOfSeveral() {
        Check.sentence("sum of what was RECOVERED");
        Run x = new Run(2);
        for (int m = 0; m < 20; m++) {
            x.movement(0, 1, m, 9, 5, 1 << (m % 19));
        }
        int sum = 0;
        for (int m = 0; m < 20; m++) {
            x.tick(40 + m);
            sum += 1 << (m % 19);
            Check.due("sum on day " + (40 + m), x.count(5), sum);
            Check.due("RESERVED on day " + (40 + m), x.count(4), (1 << 19) - sum);
            Check.due("ended on day " + (40 + m), x.count(6), m + 1);
        }
        Check.due("proof of the last", x.proof(19), 2);
        Check.due("the sum without it", x.count(5), sum - 1);
        Check.due("proof of the first", x.proof(0), 2);
        Check.due("the sum without it", x.count(5), sum - 2);
        Check.due("ended", x.count(6), 20);
    }
}
