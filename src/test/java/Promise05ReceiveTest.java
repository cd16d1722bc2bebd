public final class Promise05ReceiveTest {
    public static void main(String[] args) {
        anOfficeReceives();
        wasReceived();
        isLost();
        isForAnotherOffice();
        otherMovementsAreLeftAlone();
        noSuchOffice();
        noSuchMessage();
        wrongInputsThrowWhereTheCallWouldBeRefused();
        Check.end();
    }

    private static void anOfficeReceives() {
        Check.sentence("An office receives a message: 1");
        for (Mail mail : Mail.values()) {
            Run x = mail.make();
            int onTheirWay = x.count(7);
            Check.due("receive " + mail, x.receive(mail.receiver, mail.number), 1);
            Check.due(mail + " is received", x.message(mail.number, 6), 1);
            Check.same("the movement behind " + mail, mail.behind, Look.movement(x, 0));
            Check.due("messages behind " + mail, x.count(2), mail.messagesBehind());
            Check.due("on their way behind " + mail, x.count(7), onTheirWay - 1 + mail.messagesBehind() - mail.number - 1);
        }
    }

    private static void wasReceived() {
        Check.sentence("received again it does nothing");
        for (Mail mail : Mail.values()) {
            Run x = mail.make();
            x.receive(mail.receiver, mail.number);
            for (int office = 0; office < 4; office++) {
                int there = office;
                Check.idle(x, "receive " + mail + " again at " + there, 0, () -> x.receive(there, mail.number));
            }
            Check.idle(x, "receive " + mail + " a third time", 0, () -> x.receive(mail.receiver, mail.number));
        }
    }

    private static void isLost() {
        Check.sentence("may be LOST (then it is received no more)");
        for (Mail mail : Mail.values()) {
            Run x = mail.make();
            Check.yes("lose " + mail, x.lose(mail.number));
            for (int office = 0; office < 4; office++) {
                int there = office;
                Check.idle(x, "receive a lost " + mail + " at " + there, 0, () -> x.receive(there, mail.number));
            }
            Check.due("a lost " + mail + " stays so", x.message(mail.number, 6), 2);
            Check.same("the movement behind a lost " + mail, mail.before, Look.movement(x, 0));
            Check.due("messages behind a lost " + mail, x.count(2), mail.number + 1);
        }
    }

    private static void isForAnotherOffice() {
        Check.sentence("0 again if it was received, is lost, or is for another office.");
        for (Mail mail : Mail.values()) {
            Run x = mail.make();
            for (int office = 0; office < 4; office++) {
                int there = office;
                if (there != mail.receiver) {
                    Check.idle(x, "receive " + mail + " at " + there, 0, () -> x.receive(there, mail.number));
                }
            }
            Check.due("receive " + mail + " where it is for", x.receive(mail.receiver, mail.number), 1);
            Check.same("the movement behind " + mail, mail.behind, Look.movement(x, 0));
        }
    }

    /** Message numbers and movement numbers run apart here, so that one can't stand for the other. */
    private static void otherMovementsAreLeftAlone() {
        Check.sentence("Each is sent once");
        Run x = new Run(4);
        for (int m = 0; m < 3; m++) {
            x.movement(1, 2, 10, 77, 5, 1000);
        }
        x.arrive(2, 2, 70);
        x.arrive(0, 3, 77);
        x.control(2, 4);
        x.control(0, 5);
        x.receive(1, 3);
        x.receive(2, 5);
        x.receive(1, 7);
        Check.same("movement 0", " 6 5 0 0 77 -1 5 0 0 offices 0 1 4 24", Look.movement(x, 0));
        Check.same("movement 1", " 1 0 0 0 -1 -1 -1 -1 0 offices 0 1 0 0", Look.movement(x, 1));
        Check.same("movement 2", " 2 0 0 0 70 0 -1 -1 1 offices 0 1 24 0", Look.movement(x, 2));
        x.receive(2, 1);
        Check.due("movement 1 is announced", x.office(1, 2), 2);
        Check.due("movement 0 is not", x.office(0, 2), 4);
    }

    private static void noSuchOffice() {
        Check.sentence("IllegalArgumentException if there is no such office or message.");
        Run x = Scene.begun();
        for (int office : new int[] {-1, 4, 8, Integer.MIN_VALUE, Integer.MAX_VALUE}) {
            Check.refused(x, "receive(" + office + ", 0)", Check.ARGUMENT, () -> x.receive(office, 0));
        }
        Check.due("the first office is one", x.receive(0, 0), 0);
        Check.due("the last office is one", x.receive(3, 0), 0);
    }

    private static void noSuchMessage() {
        Check.sentence("IllegalArgumentException if there is no such office or message.");
        Run none = new Run(4);
        Check.refused(none, "receive(0, 0) of none", Check.ARGUMENT, () -> none.receive(0, 0));
        Run x = Scene.begun();
        for (int i : new int[] {-1, 1, 199, 200, 1000, Integer.MIN_VALUE, Integer.MAX_VALUE}) {
            Check.refused(x, "receive(2, " + i + ")", Check.ARGUMENT, () -> x.receive(2, i));
        }
        x.arrive(0, 3, 77);
        Check.refused(x, "the one behind the last", Check.ARGUMENT, () -> x.receive(2, 3));
        Check.due("the last", x.receive(2, 2), 1);
        Check.due("the first", x.receive(2, 0), 1);
    }

    private static void wrongInputsThrowWhereTheCallWouldBeRefused() {
        Check.sentence("IllegalArgumentException if there is no such office or message.");
        Run x = Scene.begun();
        x.receive(2, 0);
        Check.refused(x, "a received one at no office", Check.ARGUMENT, () -> x.receive(4, 0));
        Run y = Scene.begun();
        y.lose(0);
        Check.refused(y, "a lost one at no office", Check.ARGUMENT, () -> y.receive(-1, 0));
        Check.refused(y, "none such at no office", Check.ARGUMENT, () -> y.receive(4, 1));
    }
}
