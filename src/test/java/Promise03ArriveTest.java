public final class Promise03ArriveTest {
    public static void main(String[] args) {
        arriveAtTheDestination();
        arriveAtEveryOtherOffice();
        lateBehindTheLimit();
        lateAtBothEndsOfTime();
        hadArrived();
        isTheDeparture();
        isDischarged();
        onlyDischargedIsRefused();
        noSuchMovement();
        noSuchOffice();
        sealThatCannotBe();
        wrongInputsThrowWhereTheCallWouldBeRefused();
        Check.end();
    }

    private static void arriveAtTheDestination() {
        Check.sentence("The goods ARRIVE at an office: 1");
        Run x = Scene.begun();
        Check.due("arrive(0, 2, 70)", x.arrive(0, 2, 70), 1);
        Check.due("one message more", x.count(2), 2);
        Check.same("ARRIVED", " 2 0 2 1 70 0 0", Look.message(x, 1));
        Check.same("the departure was told nothing yet", " 1 0 0 0 -1 -1 -1 -1 0 offices 0 1 8 0", Look.movement(x, 0));
    }

    private static void arriveAtEveryOtherOffice() {
        Check.sentence("ELSEWHERE, where the goods arrived to the destination, if that is another office, as they arrive");
        for (int office = 0; office < 8; office++) {
            if (office == 1 || office == 2) {
                continue;
            }
            Run x = new Run(8);
            x.movement(1, 2, 10, 77, 5, 1000);
            Check.due("arrive at " + office, x.arrive(0, office, 77), 1);
            Check.due("two messages more", x.count(2), 3);
            Check.same("ARRIVED goes first", " 2 0 " + office + " 1 77 0 0", Look.message(x, 1));
            Check.same("ELSEWHERE behind it", " 6 0 " + office + " 2 " + office + " 0 0", Look.message(x, 2));
            Check.due("the goods are there", x.office(0, office), 8);
            Check.due("and not at the destination", x.office(0, 2), 0);
        }
    }

    private static void isLate(int limit, int day, int due) {
        Run x = new Run(3);
        x.movement(0, 1, limit, 9, 5, 100);
        x.tick(day);
        int message = x.count(2);
        Check.due("arrive on day " + day + ", limit " + limit, x.arrive(0, 2, 9), 1);
        Check.due("LATE on day " + day + ", limit " + limit, x.message(message, 5), due);
        x.receive(0, message);
        Check.due("known as LATE on day " + day + ", limit " + limit, x.state(0, 5), due);
    }

    private static void lateBehindTheLimit() {
        Check.sentence("LATE if that is behind the LIMIT");
        isLate(5, 4, 0);
        isLate(5, 5, 0);
        isLate(5, 6, 1);
        isLate(5, 45, 1);
    }

    private static void lateAtBothEndsOfTime() {
        Check.sentence("LATE if that is behind the LIMIT");
        isLate(0, 0, 0);
        isLate(0, 1, 1);
        isLate(9999, 10000, 1);
        isLate(10000, 9999, 0);
        isLate(10000, 10000, 0);
    }

    private static void isRefused(Run x, String when) {
        for (int office = 0; office < 4; office++) {
            int there = office;
            Check.idle(x, "arrive at " + there + " " + when, 0, () -> x.arrive(0, there, 77));
        }
    }

    private static void hadArrived() {
        Check.sentence("0 if they had arrived");
        Run x = Scene.begun();
        x.arrive(0, 2, 70);
        isRefused(x, "behind an arrival at the destination");
        x.control(0, 5);
        isRefused(x, "behind the control");
        x.tick(50);
        isRefused(x, "when RECOVERED");
        Run y = Scene.begun();
        y.arrive(0, 3, 70);
        isRefused(y, "behind an arrival elsewhere");
        isRefused(Scene.ARRIVED.make(), "when ARRIVED is told");
        isRefused(Scene.DIFFERS.make(), "when it DIFFERS");
    }

    private static void isTheDeparture() {
        Check.sentence("it is the departure");
        for (Scene scene : new Scene[] {Scene.ON_THE_WAY, Scene.ENQUIRED, Scene.RECOVERED}) {
            Run x = scene.make();
            Check.idle(x, scene + ": arrive at the departure", 0, () -> x.arrive(0, Scene.FROM, Scene.SEAL));
            Check.due(scene + ": arrive at the destination behind that", x.arrive(0, Scene.TO, Scene.SEAL), 1);
        }
    }

    private static void isDischarged() {
        Check.sentence("or the movement is DISCHARGED");
        for (Scene scene : Scene.values()) {
            if (scene.state == 6) {
                isRefused(scene.make(), "when " + scene);
            }
        }
    }

    private static void onlyDischargedIsRefused() {
        Check.sentence("0 if they had arrived, it is the departure, or the movement is DISCHARGED.");
        for (Scene scene : new Scene[] {Scene.ON_THE_WAY, Scene.ENQUIRED, Scene.RECOVERED}) {
            Run x = scene.make();
            int message = x.count(2);
            Check.due(scene + ": arrive", x.arrive(0, Scene.BESIDE, 78), 1);
            Check.due(scene + ": STATE until told", x.state(0, 0), scene.state);
            Check.due(scene + ": two messages more", x.count(2), message + 2);
            Check.due(scene + ": ARRIVED", x.message(message, 0), 2);
            Check.due(scene + ": ELSEWHERE", x.message(message + 1, 0), 6);
        }
    }

    private static void noSuchMovement() {
        Check.sentence("IllegalArgumentException if there is no such movement or office");
        Run none = new Run(4);
        Check.refused(none, "arrive(0, 2, 1) of none", Check.ARGUMENT, () -> none.arrive(0, 2, 1));
        Run x = Scene.begun();
        for (int m : new int[] {-1, 1, 19, 20, Integer.MIN_VALUE, Integer.MAX_VALUE}) {
            Check.refused(x, "arrive(" + m + ", 2, 1)", Check.ARGUMENT, () -> x.arrive(m, 2, 1));
        }
    }

    private static void noSuchOffice() {
        Check.sentence("IllegalArgumentException if there is no such movement or office");
        Run x = Scene.begun();
        for (int office : new int[] {-1, 4, 8, Integer.MIN_VALUE, Integer.MAX_VALUE}) {
            Check.refused(x, "arrive(0, " + office + ", 1)", Check.ARGUMENT, () -> x.arrive(0, office, 1));
        }
        Check.due("arrive at the first office", x.arrive(0, 0, 1), 1);
        Run y = Scene.begun();
        Check.due("arrive at the last office", y.arrive(0, 3, 1), 1);
    }

    private static void sealThatCannotBe() {
        Check.sentence("or the seal is not 0 .. 1000000000");
        Run x = Scene.begun();
        for (int seal : new int[] {-1, 1000000001, Integer.MIN_VALUE, Integer.MAX_VALUE}) {
            Check.refused(x, "arrive(0, 2, " + seal + ")", Check.ARGUMENT, () -> x.arrive(0, 2, seal));
        }
        for (int seal : new int[] {0, 1, 1000000000}) {
            Run y = Scene.begun();
            Check.due("arrive(0, 2, " + seal + ")", y.arrive(0, 2, seal), 1);
            Check.due("seal " + seal + " is told", y.message(1, 4), seal);
            y.receive(1, 1);
            Check.due("seal " + seal + " is known", y.state(0, 4), seal);
        }
    }

    private static void wrongInputsThrowWhereTheCallWouldBeRefused() {
        Check.sentence("IllegalArgumentException if there is no such movement or office, or the seal is not 0 .. 1000000000.");
        for (Scene scene : Scene.values()) {
            Run x = scene.make();
            Check.refused(x, scene + ": no such office", Check.ARGUMENT, () -> x.arrive(0, 4, 77));
            Check.refused(x, scene + ": seal -1", Check.ARGUMENT, () -> x.arrive(0, 2, -1));
            Check.refused(x, scene + ": seal 1000000001", Check.ARGUMENT, () -> x.arrive(0, 2, 1000000001));
            Check.refused(x, scene + ": seal -1 at the departure", Check.ARGUMENT, () -> x.arrive(0, 1, -1));
        }
    }
}
