public final class Promise06LoseTest {
    public static void main(String[] args) {
        isLost();
        thereIsNoneSuch();
        isLostAlready();
        wasReceived();
        Check.end();
    }

    private static void idle(Run x, String which, int message) {
        Check.idle(x, "lose " + which, 0, () -> x.lose(message) ? 1 : 0);
    }

    private static void isLost() {
        Check.sentence("A message is LOST: true");
        for (Mail mail : Mail.values()) {
            Run x = mail.make();
            int onTheirWay = x.count(7);
            Check.yes("lose " + mail, x.lose(mail.number));
            Check.due(mail + " is LOST", x.message(mail.number, 6), 2);
            Check.due("its kind stays", x.message(mail.number, 0), mail.kind);
            Check.due("it stays a message", x.count(2), mail.number + 1);
            Check.due("one is on its way no more", x.count(7), onTheirWay - 1);
            Check.same("the movement", mail.before, Look.movement(x, 0));
        }
    }

    private static void thereIsNoneSuch() {
        Check.sentence("false if there is none such, it is lost, or was received.");
        Run x = new Run(3);
        for (int i : new int[] {0, -1, 1}) {
            idle(x, i + " of none", i);
        }
        x.movement(0, 1, 10, 77, 5, 1000);
        x.movement(0, 2, 10, 77, 5, 1000);
        for (int i : new int[] {-1, 2, 3, 199, 200, 1000, Integer.MIN_VALUE, Integer.MAX_VALUE}) {
            idle(x, "none such, " + i, i);
        }
        Check.yes("lose the last", x.lose(1));
        Check.yes("lose the first", x.lose(0));
    }

    private static void isLostAlready() {
        Check.sentence("false if there is none such, it is lost, or was received.");
        for (Mail mail : Mail.values()) {
            Run x = mail.make();
            x.lose(mail.number);
            idle(x, "a lost " + mail, mail.number);
        }
    }

    private static void wasReceived() {
        Check.sentence("false if there is none such, it is lost, or was received.");
        for (Mail mail : Mail.values()) {
            Run x = mail.make();
            x.receive(mail.receiver, mail.number);
            idle(x, "a received " + mail, mail.number);
            Check.due("it stays received", x.message(mail.number, 6), 1);
        }
        Run y = Scene.begun();
        y.receive(1, 0);
        Check.yes("lose one that another office asked for", y.lose(0));
    }
}
