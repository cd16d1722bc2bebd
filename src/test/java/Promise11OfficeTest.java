public final class Promise11OfficeTest {
    public static void main(String[] args) {
        goodsAtTheDestination();
        goodsElsewhere();
        firstAndLastOffice();
        keepsMovementsApart();
        noSuchMovement();
        noSuchOffice();
        Check.end();
    }

    private static void are(Run x, String when, int m, int... due) {
        Check.row(when + ": office(" + m + "), office", office -> x.office(m, office), due);
    }

    private static void goodsAtTheDestination() {
        Check.sentence("1 it is the departure, 2 the destination that knows of it");
        Run x = new Run(3);
        x.movement(2, 1, 10, 77, 10, 1000);
        are(x, "begun", 0, 0, 0, 1);
        x.arrive(0, 1, 77);
        are(x, "arrived", 0, 0, 8, 1);
        x.receive(1, 0);
        are(x, "announced", 0, 0, 10, 1);
        x.control(0, 10);
        are(x, "controlled", 0, 0, 26, 1);
        x.receive(2, 1);
        x.receive(2, 2);
        are(x, "DISCHARGED", 0, 0, 26, 1);
    }

    private static void goodsElsewhere() {
        Check.sentence("4 the destination that knows that it went ELSEWHERE, 8 the goods arrived there, 16 they were controlled there");
        Run x = new Run(3);
        x.movement(2, 1, 10, 77, 10, 1000);
        x.arrive(0, 0, 77);
        are(x, "arrived elsewhere", 0, 8, 0, 1);
        x.receive(1, 2);
        are(x, "told elsewhere", 0, 8, 4, 1);
        x.receive(1, 0);
        are(x, "announced", 0, 8, 6, 1);
        x.control(0, 0);
        are(x, "controlled, none found", 0, 24, 6, 1);
    }

    private static void firstAndLastOffice() {
        Check.sentence("OFFICES 0 .. n - 1.");
        Run x = new Run(8);
        x.movement(7, 0, 10, 77, 10, 1000);
        x.movement(0, 7, 10, 77, 10, 1000);
        x.receive(0, 0);
        x.receive(7, 1);
        x.arrive(0, 0, 77);
        x.arrive(1, 7, 77);
        are(x, "from the last to the first", 0, 10, 0, 0, 0, 0, 0, 0, 1);
        are(x, "from the first to the last", 1, 1, 0, 0, 0, 0, 0, 0, 10);
    }

    private static void keepsMovementsApart() {
        Check.sentence("Of a movement at an office, as bits");
        Run x = new Run(2);
        for (int m = 0; m < 20; m++) {
            x.movement(m % 2, 1 - m % 2, 10, 77, 10, 1000);
        }
        x.receive(0, 19);
        x.arrive(0, 1, 77);
        are(x, "the first", 0, 1, 8);
        for (int m = 1; m < 19; m++) {
            are(x, "one between", m, 1 - m % 2, m % 2);
        }
        are(x, "the last", 19, 2, 1);
        Check.refused(x, "the one behind it", Check.INDEX, () -> x.office(20, 0));
    }

    private static void noSuchMovement() {
        Check.sentence("IndexOutOfBoundsException if there is no such movement or office.");
        Run x = new Run(3);
        Check.refused(x, "office(0, 0) of no movement", Check.INDEX, () -> x.office(0, 0));
        x.movement(2, 1, 10, 77, 10, 1000);
        for (int m : new int[] {-1, 1, 19, 20, Integer.MIN_VALUE, Integer.MAX_VALUE}) {
            for (int office = 0; office < 3; office++) {
                int there = office;
                Check.refused(x, "office(" + m + ", " + there + ")", Check.INDEX, () -> x.office(m, there));
            }
            Check.refused(x, "office(" + m + ", 3)", Check.INDEX, () -> x.office(m, 3));
        }
    }

    private static void noSuchOffice() {
        Check.sentence("IndexOutOfBoundsException if there is no such movement or office.");
        for (int n = 2; n <= 8; n++) {
            Run x = new Run(n);
            x.movement(0, 1, 10, 77, 10, 1000);
            for (int office : new int[] {-1, n, n + 1, 9, Integer.MIN_VALUE, Integer.MAX_VALUE}) {
                Check.refused(x, "office(0, " + office + ") of " + n, Check.INDEX, () -> x.office(0, office));
            }
            Check.due("the last of " + n, x.office(0, n - 1), 0);
        }
    }
}
