public final class Promise12MessageTest {
    public static void main(String[] args) {
        tellsAllSixKinds();
        tellsItsStanding();
        keepsItsValues();
        noSuchMessage();
        noSuchWhat();
        Check.end();
    }

    private static void tellsAllSixKinds() {
        Check.sentence("Of message i: what 0: kind, 1: movement, 2: sender, 3: receiver, 4, 5: values");
        Run x = new Run(4);
        x.movement(0, 1, 99, 5, 6, 7);
        x.movement(3, 2, 10, 77, 10, 1000);
        x.arrive(1, 1, 70);
        x.control(1, 4);
        x.tick(20);
        x.receive(2, 5);
        x.receive(2, 1);
        x.lose(3);
        String[] due = {
            " 1 0 0 1 6 99 0", " 1 1 3 2 10 10 1", " 2 1 1 3 70 0 0", " 6 1 1 2 1 0 2", " 3 1 1 3 4 70 0",
            " 4 1 3 2 1 0 1", " 5 1 2 3 0 0 0",
        };
        Check.due("messages", x.count(2), due.length);
        for (int i = 0; i < due.length; i++) {
            Check.same("message " + i, due[i], Look.message(x, i));
        }
        Check.refused(x, "the one behind the last", Check.INDEX, () -> x.message(due.length, 0));
    }

    private static void tellsItsStanding() {
        Check.sentence("6: 0 on its way, 1 received, 2 LOST");
        for (Mail mail : Mail.values()) {
            Run x = mail.make();
            Check.due(mail + " on its way", x.message(mail.number, 6), 0);
            x.receive(mail.receiver, mail.number);
            Check.due(mail + " received", x.message(mail.number, 6), 1);
            Run y = mail.make();
            y.lose(mail.number);
            Check.due(mail + " LOST", y.message(mail.number, 6), 2);
        }
    }

    /** What is told in a message is what was so when it was sent. */
    private static void keepsItsValues() {
        Check.sentence("Each is sent once");
        Run x = Scene.ENQUIRED.make();
        x.receive(2, 1);
        x.receive(2, 0);
        x.arrive(0, 3, 70);
        x.control(0, 3);
        x.receive(2, 4);
        x.tick(50);
        x.proof(0);
        String[] due = {
            " 1 0 1 2 5 10 1", " 4 0 1 2 1 0 1", " 5 0 2 1 0 0 0", " 2 0 3 1 70 1 0", " 6 0 3 2 3 0 1", " 3 0 3 1 3 70 0",
            " 4 0 1 2 2 0 0", " 4 0 1 2 3 0 0",
        };
        Check.due("messages", x.count(2), due.length);
        for (int i = 0; i < due.length; i++) {
            Check.same("message " + i, due[i], Look.message(x, i));
        }
    }

    private static void noSuchMessage() {
        Check.sentence("IndexOutOfBoundsException if there is none such.");
        Run x = new Run(4);
        Check.refused(x, "message(0, 0) of none", Check.INDEX, () -> x.message(0, 0));
        x.movement(0, 1, 10, 77, 10, 1000);
        for (int i : new int[] {-1, 1, 199, 200, 1000, Integer.MIN_VALUE, Integer.MAX_VALUE}) {
            for (int what = -1; what <= 7; what++) {
                int w = what;
                Check.refused(x, "message(" + i + ", " + w + ")", Check.INDEX, () -> x.message(i, w));
            }
        }
        Check.due("the first and last", x.message(0, 0), 1);
    }

    private static void noSuchWhat() {
        Check.sentence("IndexOutOfBoundsException if there is none such.");
        for (Mail mail : Mail.values()) {
            Run x = mail.make();
            for (int what : new int[] {-1, 7, 8, Integer.MIN_VALUE, Integer.MAX_VALUE}) {
                Check.refused(x, mail + ": message(" + mail.number + ", " + what + ")", Check.INDEX,
                        () -> x.message(mail.number, what));
            }
        }
    }
}
