/** What the destination knows, and what it answers to an ENQUIRY. */
public final class TermsEnquiryTest {
    public static void main(String[] args) {
        destinationKnowsByTheAnnouncement();
        destinationKnowsOfElsewhereByTheMessage();
        elsewhereOnlyIfAnotherOffice();
        answersResultIfControlledThere();
        answersArrivedIfTheyArrivedThere();
        answersTheDayTheyArrived();
        elseAnswersNothing();
        goodsElsewhereAreNothing();
        nothingComesOfNothing();
        answersEachOfThree();
        answersThoughEnded();
        Check.end();
    }

    private static void receive(Run x, int office, int message) {
        Check.due("receive(" + office + ", " + message + ")", x.receive(office, message), 1);
    }

    private static void destinationKnowsByTheAnnouncement() {
        Check.sentence("The destination knows of it when it receives it.");
        Run x = Scene.begun();
        Check.due("until then", x.office(0, 2), 0);
        Check.due("at another office", x.receive(3, 0), 0);
        Check.row("nobody knows by that, office", office -> x.office(0, office), 0, 1, 0, 0);
        receive(x, 2, 0);
        Check.row("it knows, office", office -> x.office(0, office), 0, 1, 2, 0);
        Check.due("STATE", x.state(0, 0), 1);
        Check.due("no message comes of it", x.count(2), 1);
    }

    private static void destinationKnowsOfElsewhereByTheMessage() {
        Check.sentence("values: that office, 0. The destination knows of it when it receives it.");
        Run x = Scene.begun();
        x.arrive(0, 3, 77);
        Check.due("until then", x.office(0, 2), 0);
        receive(x, 1, 1);
        Check.due("ARRIVED tells the departure alone", x.office(0, 2), 0);
        receive(x, 2, 2);
        Check.row("it knows that, not of the movement, office", office -> x.office(0, office), 0, 1, 4, 8);
        receive(x, 2, 0);
        Check.due("it knows both", x.office(0, 2), 6);
        Check.due("no message comes of it", x.count(2), 3);
    }

    private static void elsewhereOnlyIfAnotherOffice() {
        Check.sentence("if that is another office, as they arrive (behind ARRIVED)");
        Run x = Scene.begun();
        x.arrive(0, 2, 77);
        Check.due("ARRIVED alone", x.count(2), 2);
        Check.due("its kind", x.message(1, 0), 2);
        Run y = Scene.begun();
        y.arrive(0, 0, 77);
        Check.due("ARRIVED and ELSEWHERE", y.count(2), 3);
        Check.due("first ARRIVED", y.message(1, 0), 2);
        Check.same("then ELSEWHERE", " 6 0 0 2 0 0 0", Look.message(y, 2));
    }

    private static void answersResultIfControlledThere() {
        Check.sentence("RESULT if the goods were controlled there, else ARRIVED if they arrived there, else 5");
        for (int found : new int[] {0, 5, 1000}) {
            Run x = Scene.ENQUIRED.make();
            x.arrive(0, 2, 70);
            x.control(0, found);
            receive(x, 2, 1);
            Check.due("RESULT alone", x.count(2), 5);
            Check.same("RESULT", " 3 0 2 1 " + found + " 70 0", Look.message(x, 4));
        }
    }

    private static void answersArrivedIfTheyArrivedThere() {
        Check.sentence("RESULT if the goods were controlled there, else ARRIVED if they arrived there, else 5");
        for (int seal : new int[] {0, 77, 1000000000}) {
            Run x = Scene.ENQUIRED.make();
            x.arrive(0, 2, seal);
            receive(x, 2, 1);
            Check.due("ARRIVED alone", x.count(2), 4);
            Check.same("ARRIVED", " 2 0 2 1 " + seal + " 1 0", Look.message(x, 3));
            x.lose(2);
            receive(x, 1, 3);
            Check.due("the answer tells as much", x.state(0, 0), 2);
        }
    }

    /** LATE is by the day on which they arrived, not by that of the answer. */
    private static void answersTheDayTheyArrived() {
        Check.sentence("Received, the destination sends, with the values as above");
        Run x = Scene.begun();
        x.tick(Scene.LIMIT);
        x.arrive(0, 2, 77);
        x.lose(1);
        x.tick(20);
        receive(x, 2, 2);
        Check.same("in time, though it is told late", " 2 0 2 1 77 0 0", Look.message(x, 3));
    }

    private static void nothingIs(Run x, int enquiry, int knows, int elsewhere) {
        int answer = x.count(2);
        receive(x, 2, enquiry);
        Check.same("NOTHING", " 5 0 2 1 " + knows + " " + elsewhere + " 0", Look.message(x, answer));
        Check.due("NOTHING alone", x.count(2), answer + 1);
    }

    private static void elseAnswersNothing() {
        Check.sentence("values: 1 if it knows of the movement, 1 if it knows that it went ELSEWHERE");
        Run x = Scene.ENQUIRED.make();
        nothingIs(x, 1, 0, 0);
        Check.due("an ENQUIRY tells it nothing", x.office(0, 2), 0);
        Run y = Scene.ENQUIRED.make();
        receive(y, 2, 0);
        nothingIs(y, 1, 1, 0);
        Run z = Scene.ENQUIRED.make();
        z.arrive(0, 3, 77);
        receive(z, 2, 3);
        nothingIs(z, 1, 0, 1);
        Run w = Scene.ENQUIRED.make();
        w.arrive(0, 3, 77);
        receive(w, 2, 3);
        receive(w, 2, 0);
        nothingIs(w, 1, 1, 1);
    }

    private static void goodsElsewhereAreNothing() {
        Check.sentence("RESULT if the goods were controlled there, else ARRIVED if they arrived there, else 5");
        Run x = Scene.ENQUIRED.make();
        x.arrive(0, 3, 77);
        nothingIs(x, 1, 0, 0);
        Run y = Scene.ENQUIRED.make();
        y.arrive(0, 0, 77);
        y.control(0, 5);
        nothingIs(y, 1, 0, 0);
    }

    private static void nothingComesOfNothing() {
        Check.sentence("Received: nothing comes of it.");
        for (int both = 0; both <= 3; both++) {
            Run x = Scene.ENQUIRED.make();
            x.arrive(0, 3, 77);
            if (both % 2 == 1) {
                receive(x, 2, 0);
            }
            if (both >= 2) {
                receive(x, 2, 3);
            }
            nothingIs(x, 1, both % 2, both / 2);
            String before = Look.movement(x, 0);
            receive(x, 1, 4);
            Check.same("the movement behind NOTHING", before, Look.movement(x, 0));
            Check.due("messages behind NOTHING", x.count(2), 5);
            Check.due("STATE behind NOTHING", x.state(0, 0), 4);
        }
    }

    private static void answersEachOfThree() {
        Check.sentence("which one it is (1 to 3)");
        Run x = Scene.begun();
        x.tick(30);
        for (int i = 1; i <= 3; i++) {
            Check.due("which one", x.message(i, 4), i);
            nothingIs(x, i, 0, 0);
            Check.due("again", x.receive(2, i), 0);
        }
        Check.due("messages", x.count(2), 7);
        Run y = Scene.begun();
        y.tick(30);
        nothingIs(y, 3, 0, 0);
        y.arrive(0, 2, 77);
        receive(y, 2, 1);
        Check.due("by then they have arrived", y.message(6, 0), 2);
        y.control(0, 5);
        receive(y, 2, 2);
        Check.due("by then they are controlled", y.message(8, 0), 3);
    }

    private static void answersThoughEnded() {
        Check.sentence("Received, the destination sends, with the values as above");
        Run x = Scene.ENQUIRED.make();
        x.proof(0);
        nothingIs(x, 1, 0, 0);
        Run y = Scene.RECOVERED.make();
        y.arrive(0, 2, 77);
        receive(y, 2, 1);
        Check.due("ARRIVED", y.message(5, 0), 2);
        y.control(0, 5);
        receive(y, 2, 3);
        Check.due("RESULT", y.message(7, 0), 3);
        receive(y, 1, 7);
        Check.due("RECOVERED stays", y.state(0, 0), 5);
    }
}
