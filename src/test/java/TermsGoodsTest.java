/** The goods as they are, apart from what messages have told the departure and the destination. */
public final class TermsGoodsTest {
    public static void main(String[] args) {
        arriveAtOneOfficeOnce();
        withTheSealThatIsSeenThere();
        controlledThereOnce();
        knownByMessagesAlone();
        arrivedTellsItsValues();
        resultTellsItsValues();
        limitIsADay();
        Check.end();
    }

    private static void arriveAtOneOfficeOnce() {
        Check.sentence("then they ARRIVE at one office (not the departure), once");
        for (int first = 0; first < 4; first++) {
            for (int second = 0; second < 4; second++) {
                Run x = Scene.begun();
                boolean arrives = first != Scene.FROM;
                boolean arrivesThen = !arrives && second != Scene.FROM;
                Check.due("arrive at " + first, x.arrive(0, first, 77), arrives ? 1 : 0);
                Check.due("arrive at " + second + " behind " + first, x.arrive(0, second, 78), arrivesThen ? 1 : 0);
                int there = arrives ? first : arrivesThen ? second : -1;
                for (int office = 0; office < 4; office++) {
                    Check.due("goods at " + office, x.office(0, office) & 8, office == there ? 8 : 0);
                }
                int sent = there == -1 ? 0 : there == Scene.TO ? 1 : 2;
                Check.due("messages of it", x.count(2), 1 + sent);
            }
        }
    }

    private static void withTheSealThatIsSeenThere() {
        Check.sentence("with a seal that is seen there and on a day (LATE if that is behind the LIMIT)");
        Run x = Scene.begun();
        x.tick(11);
        x.arrive(0, 3, 70);
        x.arrive(0, 2, 77);
        x.tick(12);
        x.control(0, 5);
        Check.same("ARRIVED", " 2 0 3 1 70 1 0", Look.message(x, 1));
        Check.same("RESULT has the seal seen, not the movement's", " 3 0 3 1 5 70 0", Look.message(x, 3));
    }

    private static void controlledThereOnce() {
        Check.sentence("then they are CONTROLLED there, once: so many pieces are FOUND (0 .. 1000)");
        for (int found : new int[] {0, 1, 5, 1000}) {
            for (int again : new int[] {0, 5, 1000}) {
                Run x = Scene.begun();
                x.arrive(0, 3, 77);
                Check.due("control", x.control(0, found), 1);
                Check.due("control again", x.control(0, again), 0);
                Check.same("the first counts", " 3 0 3 1 " + found + " 77 0", Look.message(x, 3));
                Check.due("messages", x.count(2), 4);
                Check.row("office", office -> x.office(0, office), 0, 1, 0, 24);
            }
        }
    }

    /** Nothing is known at the departure or the destination before the message that tells it has come there. */
    private static void knownByMessagesAlone() {
        Check.sentence("each of which knows only what messages told it");
        String unknown = " 1 0 0 0 -1 -1 -1 -1 0 offices 0 1 0 ";
        Run x = Scene.begun();
        Check.same("begun", unknown + "0", Look.movement(x, 0));
        x.arrive(0, 3, 70);
        Check.same("arrived", unknown + "8", Look.movement(x, 0));
        x.control(0, 4);
        Check.same("controlled", unknown + "24", Look.movement(x, 0));
        x.tick(19);
        Check.same("days behind the limit", unknown + "24", Look.movement(x, 0));
        for (int i = 0; i < 4; i++) {
            Check.yes("lose " + i, x.lose(i));
        }
        Check.same("all messages lost", unknown + "24", Look.movement(x, 0));
        Check.due("none on its way", x.count(7), 0);
    }

    private static void arrivedTellsItsValues() {
        Check.sentence("2 ARRIVED, where the goods arrived to departure, as they arrive; values: seal seen, 1 if LATE else 0.");
        for (int seal : new int[] {0, 1, 77, 1000000000}) {
            for (int late = 0; late <= 1; late++) {
                Run x = Scene.begun();
                x.tick(Scene.LIMIT + late);
                x.arrive(0, 0, seal);
                Check.same("ARRIVED", " 2 0 0 1 " + seal + " " + late + " 0", Look.message(x, 1));
                x.receive(1, 1);
                Check.due("the seal as known", x.state(0, 4), seal);
                Check.due("LATE as known", x.state(0, 5), late);
            }
        }
    }

    private static void resultTellsItsValues() {
        Check.sentence("3 RESULT, as they are controlled; values: FOUND, seal seen. Received: the seal and FOUND are known");
        for (int seal : new int[] {0, 1, 77, 1000000000}) {
            for (int found : new int[] {0, 5, 1000}) {
                Run x = Scene.begun();
                x.arrive(0, 0, seal);
                x.control(0, found);
                Check.same("RESULT", " 3 0 0 1 " + found + " " + seal + " 0", Look.message(x, 3));
                x.receive(1, 3);
                Check.due("the seal as known", x.state(0, 4), seal);
                Check.due("FOUND as known", x.state(0, 6), found);
            }
        }
    }

    private static void limitIsADay() {
        Check.sentence("has a DEPARTURE and a DESTINATION (two offices), a LIMIT (a day)");
        int[] limits = {0, 1, 9999, 10000};
        Run x = new Run(2);
        for (int m = 0; m < limits.length; m++) {
            Check.due("movement by day " + limits[m], x.movement(m % 2, 1 - m % 2, limits[m], 1, 1, 1), m);
            Check.due("its LIMIT", x.message(m, 5), limits[m]);
            Check.due("its DEPARTURE", x.message(m, 2), m % 2);
            Check.due("its DESTINATION", x.message(m, 3), 1 - m % 2);
        }
        Check.refused(x, "movement by day -1", Check.ARGUMENT, () -> x.movement(0, 1, -1, 1, 1, 1));
        Check.refused(x, "movement by day 10001", Check.ARGUMENT, () -> x.movement(0, 1, 10001, 1, 1, 1));
    }
}
