public final class Promise13CountTest {
    public static void main(String[] args) {
        countsAll();
        sumsTheHighest();
        answersNoneForAnotherWhat();
        Check.end();
    }

    private static void are(TransitSteps x, String when, int... due) {
        for (int what = 0; what < due.length; what++) {
            Check.due(when + ": count(" + what + ")", x.count(what), due[what]);
        }
    }

    private static void countsAll() {
        TransitSteps x = new TransitSteps(6);
        are(x, "new", 6, 0, 0, 0, 0, 0, 0, 0);
        x.movement(0, 1, 10, 77, 10, 1000);
        x.movement(1, 2, 20, 78, 10, 300);
        are(x, "two", 6, 2, 2, 0, 1300, 0, 0, 2);
        x.receive(1, 0);
        are(x, "one received", 6, 2, 2, 0, 1300, 0, 0, 1);
        x.lose(1);
        are(x, "one lost", 6, 2, 2, 0, 1300, 0, 0, 0);
        x.tick(50);
        are(x, "one RECOVERED", 6, 2, 8, 50, 300, 1000, 1, 6);
        x.tick(60);
        are(x, "both RECOVERED", 6, 2, 8, 60, 0, 1300, 2, 6);
        x.proof(0);
        are(x, "one by proof", 6, 2, 8, 60, 0, 300, 2, 6);
        x.movement(1, 2, 70, 78, 10, 50);
        x.proof(2);
        are(x, "one DISCHARGED", 6, 3, 9, 60, 0, 300, 3, 7);
    }

    private static void sumsTheHighest() {
        TransitSteps x = new TransitSteps(2);
        for (int m = 0; m < 20; m++) {
            x.movement(0, 1, 0, 1, 1000, 1000000);
        }
        are(x, "all RESERVED", 2, 20, 20, 0, 20000000, 0, 0, 20);
        x.tick(40);
        are(x, "all RECOVERED", 2, 20, 80, 40, 0, 20000000, 20, 80);
    }

    private static void answersNoneForAnotherWhat() {
        TransitSteps x = new TransitSteps(2);
        for (int what : new int[] {-1, 8, 9, 100, Integer.MIN_VALUE, Integer.MAX_VALUE}) {
            Check.due("count(" + what + ")", x.count(what), -1);
        }
    }
}
