public final class Promise07TickTest {
    public static void main(String[] args) {
        enquiresOnItsDays();
        enquiresInOneLeap();
        leapsOverEightyDueDays();
        asksByDaysThenNumbers();
        asksOnlyWhatIsAwaited();
        recoversOnItsDay();
        recoversWhateverHasNotEnded();
        roundsUp();
        sameDayDoesNothing();
        stopsAtTheLastDay();
        throwsForWrongInputs();
        Check.end();
    }

    private static void enquiresOnItsDays() {
        TransitSteps x = new TransitSteps(3);
        x.movement(2, 1, 100, 77, 5, 1000);
        for (int day = 1; day <= 200; day++) {
            int due = day == 110 || day == 115 || day == 120 ? 1 : 0;
            Check.due("tick(" + day + ")", x.tick(day), due);
            Check.due("NOW", x.count(3), day);
            int state = day < 110 ? 1 : day < 140 ? 4 : 5;
            Check.due("STATE on day " + day, x.state(0, 0), state);
        }
        Check.due("enquiries sent", x.state(0, 3), 3);
        Check.due("messages", x.count(2), 4);
        Check.same("the first", " 4 0 2 1 1 0 0", Look.message(x, 1));
        Check.same("the second", " 4 0 2 1 2 0 0", Look.message(x, 2));
        Check.same("the third", " 4 0 2 1 3 0 0", Look.message(x, 3));
    }

    private static void enquiresInOneLeap() {
        TransitSteps x = new TransitSteps(3);
        x.movement(2, 1, 100, 77, 5, 1000);
        Check.due("tick(10000)", x.tick(10000), 3);
        Check.due("RECOVERED", x.state(0, 0), 5);
        Check.due("all of it", x.state(0, 2), 1000);
        Check.due("NOW", x.count(3), 10000);
    }

    private static void leapsOverEightyDueDays() {
        TransitSteps x = new TransitSteps(3);
        for (int m = 0; m < 20; m++) {
            x.movement(0, 1, 100 * m, 9, 5, 10);
        }
        Check.due("tick(10000) over all", x.tick(10000), 60);
        Check.due("all RECOVERED", x.count(5), 200);
        Check.due("all ended", x.count(6), 20);
    }

    private static void asksByDaysThenNumbers() {
        TransitSteps x = new TransitSteps(3);
        x.movement(0, 1, 5, 1, 1, 1);
        x.movement(0, 1, 0, 1, 1, 1);
        x.movement(0, 2, 5, 1, 1, 1);
        Check.due("tick(25)", x.tick(25), 9);
        // Days 10: 1; 15: 0, 1, 2; 20: 0, 1, 2; 25: 0, 2.
        int[][] due = {{1, 1}, {0, 1}, {1, 2}, {2, 1}, {0, 2}, {1, 3}, {2, 2}, {0, 3}, {2, 3}};
        for (int i = 0; i < due.length; i++) {
            Check.due("kind of message " + (3 + i), x.message(3 + i, 0), 4);
            Check.due("movement of message " + (3 + i), x.message(3 + i, 1), due[i][0]);
            Check.due("which of message " + (3 + i), x.message(3 + i, 4), due[i][1]);
        }
    }

    private static void asksOnlyWhatIsAwaited() {
        TransitSteps x = new TransitSteps(3);
        for (int m = 0; m < 4; m++) {
            x.movement(0, 1, 0, 9, 5, 100);
        }
        x.arrive(0, 1, 9);
        x.receive(0, 4);
        x.arrive(1, 1, 9);
        x.control(1, 3);
        x.receive(0, 6);
        x.proof(2);
        x.arrive(3, 1, 9);
        Check.due("ARRIVED, DIFFERS, DISCHARGED are not asked for; what was not told is", x.tick(10), 1);
        Check.same("the one", " 4 3 0 1 1 0 0", Look.message(x, 8));
        Check.due("ARRIVED stays", x.state(0, 0), 2);
        Check.due("DIFFERS stays", x.state(1, 0), 3);
        Check.due("DISCHARGED stays", x.state(2, 0), 6);
        Check.due("ENQUIRED", x.state(3, 0), 4);
        x.receive(1, 8);
        x.receive(0, 9);
        Check.due("ARRIVED by the answer", x.state(3, 0), 2);
        Check.due("no enquiry more", x.tick(30), 0);
        Check.due("enquiries of 3", x.state(3, 3), 1);
        Check.due("enquiries of 0", x.state(0, 3), 0);
    }

    private static void recoversOnItsDay() {
        TransitSteps x = new TransitSteps(2);
        x.movement(0, 1, 3, 9, 5, 100);
        x.movement(0, 1, 4, 9, 5, 70);
        x.tick(42);
        Check.due("not 39 days behind", x.state(0, 0), 4);
        x.tick(43);
        Check.due("40 days behind", x.state(0, 0), 5);
        Check.due("the other not yet", x.state(1, 0), 4);
        Check.due("RESERVED", x.count(4), 70);
        Check.due("sum RECOVERED", x.count(5), 100);
        x.tick(44);
        Check.due("then the other", x.state(1, 0), 5);
        Check.due("RESERVED", x.count(4), 0);
        Check.due("sum RECOVERED", x.count(5), 170);
        Check.due("ended", x.count(6), 2);
    }

    private static void recoversWhateverHasNotEnded() {
        TransitSteps x = new TransitSteps(2);
        for (int m = 0; m < 4; m++) {
            x.movement(0, 1, 0, 9, 10, 999);
        }
        x.arrive(0, 1, 9);
        x.receive(0, 4);
        x.arrive(1, 1, 9);
        x.control(1, 6);
        x.receive(0, 6);
        Check.due("discharge(1, 1)", x.discharge(1, 1), 3);
        x.proof(2);
        x.arrive(3, 1, 8);
        x.control(3, 10);
        x.receive(0, 8);
        x.tick(40);
        Check.due("ARRIVED is RECOVERED", x.state(0, 0), 5);
        Check.due("whole", x.state(0, 2), 999);
        Check.due("DIFFERS is RECOVERED", x.state(1, 0), 5);
        Check.due("three tenths of it, rounded up", x.state(1, 2), 300);
        Check.due("DISCHARGED is not", x.state(2, 0), 6);
        Check.due("nothing of it", x.state(2, 2), 0);
        Check.due("DIFFERS by the seal alone is RECOVERED", x.state(3, 0), 5);
        Check.due("nothing of it", x.state(3, 2), 0);
        Check.due("sum", x.count(5), 1299);
    }

    private static void roundsUp() {
        int[][] rows = {
            {3, 1, 10, 7}, {3, 2, 10, 4}, {3, 3, 10, 0}, {3, 0, 10, 10}, {7, 6, 1, 1}, {7, 6, 0, 0}, {1000, 999, 1, 1},
            {1000, 1, 1000000, 999000}, {1000, 0, 1000000, 1000000}, {999, 1, 1000000, 998999}, {10, 5, 10, 5},
            {1, 0, 7, 7}, {1, 1, 7, 0}, {2, 1, 7, 4},
        };
        for (int[] row : rows) {
            TransitSteps x = new TransitSteps(2);
            x.movement(0, 1, 0, 9, row[0], row[2]);
            x.arrive(0, 1, 8);
            x.control(0, row[1]);
            x.receive(0, 2);
            x.tick(40);
            Check.due(row[2] + " secured, " + row[1] + " of " + row[0], x.state(0, 2), row[3]);
        }
    }

    private static void sameDayDoesNothing() {
        TransitSteps x = new TransitSteps(2);
        x.movement(0, 1, 0, 9, 5, 100);
        Check.due("tick(10)", x.tick(10), 1);
        String before = Look.at(x);
        Check.due("tick(10) again", x.tick(10), 0);
        Check.same("tick(10) again", before, Look.at(x));
        Check.due("tick(0) of a new one", new TransitSteps(2).tick(0), 0);
    }

    private static void stopsAtTheLastDay() {
        TransitSteps x = new TransitSteps(2);
        int[] limits = {9960, 9961, 9980, 9981, 9990, 9991, 10000};
        int[] enquiries = {3, 3, 3, 2, 1, 0, 0};
        for (int limit : limits) {
            x.movement(0, 1, limit, 9, 5, 100);
        }
        Check.due("tick(10000)", x.tick(10000), 12);
        for (int m = 0; m < limits.length; m++) {
            Check.due("enquiries with limit " + limits[m], x.state(m, 3), enquiries[m]);
        }
        Check.due("limit 9960 is RECOVERED", x.state(0, 0), 5);
        Check.due("limit 9961 is not", x.state(1, 0), 4);
        Check.due("tick(10000) again", x.tick(10000), 0);
    }

    private static void throwsForWrongInputs() {
        TransitSteps x = new TransitSteps(2);
        x.movement(0, 1, 0, 9, 5, 100);
        Check.refused(x, "tick(-1)", Check.ARGUMENT, () -> x.tick(-1));
        x.tick(12);
        for (int day : new int[] {11, 0, -1, 10001, Integer.MIN_VALUE, Integer.MAX_VALUE}) {
            Check.refused(x, "tick(" + day + ") on day 12", Check.ARGUMENT, () -> x.tick(day));
        }
    }
}
