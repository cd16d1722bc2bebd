public final class Promise07TickTest {
    public static void main(String[] args) {
        isTheDay();
        answersHowManyEnquiries();
        theSameDayAgain();
        aheadOfNow();
        aboveTheLastDay();
        leapsAsItWalks();
        Check.end();
    }

    private static void isTheDay() {
        Check.sentence("NOW is a day (0 at first), 0 .. 10000.");
        Run x = new Run(2);
        Check.due("NOW at first", x.count(3), 0);
        for (int day : new int[] {0, 1, 2, 9998, 9999, 10000}) {
            Check.due("tick(" + day + ")", x.tick(day), 0);
            Check.due("NOW", x.count(3), day);
        }
        Run y = new Run(2);
        Check.due("tick(10000) at once", y.tick(10000), 0);
        Check.due("NOW", y.count(3), 10000);
    }

    private static void answersHowManyEnquiries() {
        Check.sentence("It is a day: how many enquiries were sent.");
        Run x = new Run(3);
        for (int m = 0; m < 20; m++) {
            x.movement(0, 1, 0, 9, 5, 100);
        }
        Check.due("tick(9)", x.tick(9), 0);
        Check.due("tick(10)", x.tick(10), 20);
        x.proof(0);
        x.proof(19);
        Check.due("tick(14)", x.tick(14), 0);
        Check.due("tick(20)", x.tick(20), 36);
        Check.due("messages", x.count(2), 76);
        Check.due("tick(10000), recoveries are no enquiries", x.tick(10000), 0);
        Check.due("messages", x.count(2), 76);
    }

    private static void theSameDayAgain() {
        Check.sentence("each day behind NOW up to the one that is told");
        for (int day : new int[] {0, 9, 10, 15, 20, 40, 10000}) {
            Run x = new Run(2);
            x.movement(0, 1, 0, 9, 5, 100);
            x.tick(day);
            Check.idle(x, "tick(" + day + ") again", 0, () -> x.tick(day));
        }
    }

    private static void aheadOfNow() {
        Check.sentence("IllegalArgumentException if it is ahead of NOW, or above 10000.");
        Run x = new Run(2);
        x.movement(0, 1, 0, 9, 5, 100);
        Check.refused(x, "tick(-1) on day 0", Check.ARGUMENT, () -> x.tick(-1));
        Check.refused(x, "the lowest number on day 0", Check.ARGUMENT, () -> x.tick(Integer.MIN_VALUE));
        for (int now : new int[] {1, 12, 9999, 10000}) {
            x.tick(now);
            for (int day : new int[] {now - 1, 0, -1, Integer.MIN_VALUE}) {
                Check.refused(x, "tick(" + day + ") on day " + now, Check.ARGUMENT, () -> x.tick(day));
            }
            Check.due("NOW", x.count(3), now);
        }
    }

    private static void aboveTheLastDay() {
        Check.sentence("IllegalArgumentException if it is ahead of NOW, or above 10000.");
        Run x = new Run(2);
        x.movement(0, 1, 0, 9, 5, 100);
        for (int now : new int[] {0, 1, 9999, 10000}) {
            x.tick(now);
            for (int day : new int[] {10001, 10002, Integer.MAX_VALUE}) {
                Check.refused(x, "tick(" + day + ") on day " + now, Check.ARGUMENT, () -> x.tick(day));
            }
        }
        Check.due("tick(10000) on day 10000", x.tick(10000), 0);
    }

    /** Twenty movements whose days lie among each other: one leap leaves the same behind as a walk day by day. */
    private static void leapsAsItWalks() {
        Check.sentence("each day behind NOW up to the one that is told, on each the movements by numbers");
        Run leaps = new Run(3);
        Run walks = new Run(3);
        for (int m = 0; m < 20; m++) {
            leaps.movement(0, 1 + m % 2, 7 * m % 23, 9, 5, 10 + m);
            walks.movement(0, 1 + m % 2, 7 * m % 23, 9, 5, 10 + m);
        }
        int sent = 0;
        for (int day = 1; day <= 100; day++) {
            sent += walks.tick(day);
        }
        Check.due("a walk to day 100", sent, 60);
        Check.due("a leap to day 100", leaps.tick(100), 60);
        Check.same("what a leap leaves behind", Look.at(walks), Look.at(leaps));
    }
}
