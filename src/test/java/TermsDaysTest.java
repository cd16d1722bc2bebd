/** 'AS DAYS GO BY': what is due on which day, for which movements, and in which order. */
public final class TermsDaysTest {
    public static void main(String[] args) {
        enquiresTenFifteenTwentyDaysBehind();
        enquiryIsSentToTheDestination();
        onlyOnTheWayAndEnquired();
        asksNoMoreOnceItIsKnown();
        asksForWhatHasArrivedUntold();
        recoversFortyDaysBehind();
        recoversWhatHasNotEnded();
        endedIsNotRecovered();
        byDaysThenByNumbers();
        eachDayOnce();
        leapsOverEightyDueDays();
        endsWithTheLastDay();
        Check.end();
    }

    private static void enquiresTenFifteenTwentyDaysBehind() {
        Check.sentence("sends an ENQUIRY 10, 15 and 20 days behind its LIMIT, and is ENQUIRED");
        for (int limit : new int[] {0, 1, 100, 9900}) {
            Run x = new Run(3);
            x.movement(2, 1, limit, 77, 5, 1000);
            x.tick(limit);
            int enquiries = 0;
            for (int behind = 1; behind <= 45; behind++) {
                int due = behind == 10 || behind == 15 || behind == 20 ? 1 : 0;
                enquiries += due;
                String when = behind + " days behind limit " + limit;
                Check.due("tick " + when, x.tick(limit + behind), due);
                Check.due("STATE " + when, x.state(0, 0), behind < 10 ? 1 : behind < 40 ? 4 : 5);
                Check.due("enquiries sent " + when, x.state(0, 3), enquiries);
                Check.due("messages " + when, x.count(2), 1 + enquiries);
            }
        }
    }

    private static void enquiryIsSentToTheDestination() {
        Check.sentence("ENQUIRY, departure to destination; values: which one it is (1 to 3), 0.");
        Run x = new Run(8);
        x.movement(7, 0, 5, 77, 5, 1000);
        x.tick(25);
        Check.due("messages", x.count(2), 4);
        Check.same("the first", " 4 0 7 0 1 0 0", Look.message(x, 1));
        Check.same("the second", " 4 0 7 0 2 0 0", Look.message(x, 2));
        Check.same("the third", " 4 0 7 0 3 0 0", Look.message(x, 3));
        x.tick(44);
        Check.due("there is no fourth", x.count(2), 4);
    }

    private static void onlyOnTheWayAndEnquired() {
        Check.sentence("a movement that is ON THE WAY or ENQUIRED");
        for (Scene scene : Scene.values()) {
            int[] due = scene == Scene.ON_THE_WAY ? new int[] {1, 1, 1} : scene == Scene.ENQUIRED ? new int[] {0, 1, 1}
                    : new int[] {0, 0, 0};
            Run x = scene.make();
            for (int i = 0; i < 3; i++) {
                int day = Scene.LIMIT + 10 + 5 * i;
                if (day >= x.count(3)) {
                    Check.due(scene + ": enquiries on day " + day, x.tick(day), due[i]);
                    Check.due(scene + ": STATE on day " + day, x.state(0, 0), due[i] == 1 ? 4 : scene.state);
                }
            }
        }
    }

    private static void asksNoMoreOnceItIsKnown() {
        Check.sentence("a movement that is ON THE WAY or ENQUIRED");
        for (int asked = 1; asked <= 2; asked++) {
            Run x = Scene.begun();
            Check.due("enquiries", x.tick(Scene.LIMIT + 5 + 5 * asked), asked);
            x.arrive(0, 2, 77);
            x.receive(1, 1 + asked);
            Check.due("ARRIVED behind " + asked, x.state(0, 0), 2);
            Check.due("no enquiry more behind " + asked, x.tick(Scene.LIMIT + 39), 0);
            Check.due("enquiries sent", x.state(0, 3), asked);
            Check.due("ARRIVED stays", x.state(0, 0), 2);
        }
    }

    private static void asksForWhatHasArrivedUntold() {
        Check.sentence("At the departure it is also known, by messages alone");
        Run x = Scene.begun();
        x.arrive(0, 2, 77);
        x.control(0, 5);
        Check.due("arrived and controlled, but not told", x.tick(20), 1);
        Check.due("ENQUIRED", x.state(0, 0), 4);
        x.lose(1);
        x.lose(2);
        Check.due("told by messages that are lost", x.tick(30), 2);
        Check.due("ENQUIRED", x.state(0, 0), 4);
    }

    private static void recoversFortyDaysBehind() {
        Check.sentence("one that has not ended is RECOVERED 40 days behind its LIMIT");
        for (int limit : new int[] {0, 3, 9959, 9960}) {
            Run x = new Run(2);
            x.movement(0, 1, limit, 9, 5, 100);
            x.tick(limit + 39);
            Check.due("39 days behind " + limit, x.state(0, 0), 4);
            Check.due("nothing RECOVERED", x.count(5), 0);
            Check.due("tick(" + (limit + 40) + ")", x.tick(limit + 40), 0);
            Check.due("40 days behind " + limit, x.state(0, 0), 5);
            Check.due("RECOVERED", x.state(0, 2), 100);
            Check.due("RESERVED", x.count(4), 0);
            Check.due("ended", x.count(6), 1);
            Check.due("no message comes of it", x.count(2), 4);
            x.tick(Math.min(limit + 80, 10000));
            Check.due("RECOVERED once", x.count(5), 100);
        }
    }

    private static void recoversWhatHasNotEnded() {
        Check.sentence("one that has not ended is RECOVERED 40 days behind its LIMIT");
        Scene[] open = {Scene.ON_THE_WAY, Scene.ENQUIRED, Scene.ARRIVED, Scene.DIFFERS};
        int[] recovered = {1000, 1000, 1000, 400};
        for (int i = 0; i < open.length; i++) {
            Run x = open[i].make();
            x.tick(49);
            Check.no(open[i] + ": ended on day 49", x.count(6) != 0);
            x.tick(50);
            Check.due(open[i] + ": STATE", x.state(0, 0), 5);
            Check.due(open[i] + ": RECOVERED", x.state(0, 2), recovered[i]);
        }
    }

    private static void endedIsNotRecovered() {
        Check.sentence("each movement ends once");
        for (Scene scene : Scene.values()) {
            if (scene.hasEnded()) {
                Run x = scene.make();
                String before = Look.movement(x, 0);
                int messages = x.count(2);
                Check.due(scene + ": tick(10000)", x.tick(10000), 0);
                Check.same(scene + ": the movement", before, Look.movement(x, 0));
                Check.due(scene + ": messages", x.count(2), messages);
            }
        }
    }

    private static void byDaysThenByNumbers() {
        Check.sentence("each day behind NOW up to the one that is told, on each the movements by numbers");
        Run x = new Run(3);
        x.movement(0, 1, 5, 1, 1, 1);
        x.movement(0, 1, 0, 1, 1, 1);
        x.movement(0, 2, 5, 1, 1, 1);
        Check.due("tick(25)", x.tick(25), 9);
        // Days 10: 1; 15: 0, 1, 2; 20: 0, 1, 2; 25: 0, 2.
        int[][] due = {{1, 1}, {0, 1}, {1, 2}, {2, 1}, {0, 2}, {1, 3}, {2, 2}, {0, 3}, {2, 3}};
        for (int i = 0; i < due.length; i++) {
            int to = due[i][0] == 2 ? 2 : 1;
            Check.same("message " + (3 + i), " 4 " + due[i][0] + " 0 " + to + " " + due[i][1] + " 0 0",
                    Look.message(x, 3 + i));
        }
    }

    private static void eachDayOnce() {
        Check.sentence("each day behind NOW up to the one that is told");
        Run x = new Run(2);
        x.movement(0, 1, 0, 9, 5, 100);
        Check.due("up to the day ahead", x.tick(9), 0);
        Check.due("up to the day itself", x.tick(10), 1);
        Check.due("the day is not behind NOW any more", x.tick(14), 0);
        Check.due("from a due day to the next", x.tick(15), 1);
        Check.due("from a due day to the next", x.tick(20), 1);
        Check.due("nothing is due any more", x.tick(39), 0);
        Check.due("STATE", x.state(0, 0), 4);
    }

    private static void leapsOverEightyDueDays() {
        Check.sentence("each day behind NOW up to the one that is told");
        Run x = new Run(3);
        for (int m = 0; m < 20; m++) {
            x.movement(0, 1, 100 * m, 9, 5, 10);
        }
        Check.due("tick(10000) over all", x.tick(10000), 60);
        Check.due("all RECOVERED", x.count(5), 200);
        Check.due("all ended", x.count(6), 20);
        Check.same("the last enquiry", " 4 19 0 1 3 0 0", Look.message(x, 79));
    }

    private static void endsWithTheLastDay() {
        Check.sentence("NOW is a day (0 at first), 0 .. 10000.");
        int[] limits = {9960, 9961, 9980, 9981, 9985, 9986, 9990, 9991, 10000};
        int[] enquiries = {3, 3, 3, 2, 2, 1, 1, 0, 0};
        int[] states = {5, 4, 4, 4, 4, 4, 4, 1, 1};
        Run x = new Run(2);
        for (int limit : limits) {
            x.movement(0, 1, limit, 9, 5, 100);
        }
        Check.due("tick(10000)", x.tick(10000), 15);
        for (int m = 0; m < limits.length; m++) {
            Check.due("enquiries with limit " + limits[m], x.state(m, 3), enquiries[m]);
            Check.due("STATE with limit " + limits[m], x.state(m, 0), states[m]);
        }
    }
}
