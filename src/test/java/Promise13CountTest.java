public final class Promise13CountTest {
    public static void main(String[] args) {
        countsAll();
        countsMessagesOnTheirWay();
        sumsTheHighest();
        sumsTheLowest();
        noneForAnotherWhat();
        Check.end();
    }

    private static void are(Run x, String when, int... due) {
        Check.row(when + ": count", x::count, due);
    }

    private static void countsAll() {
        Check.sentence("what 0: offices, 1: movements, 2: messages, 3: NOW, 4: RESERVED, 5: sum of what was RECOVERED, "
                + "6: movements that have ended, 7: messages on their way.");
        Run x = new Run(6);
        are(x, "new", 6, 0, 0, 0, 0, 0, 0, 0);
        x.movement(0, 1, 10, 77, 10, 1000);
        x.movement(1, 2, 20, 78, 10, 300);
        are(x, "two", 6, 2, 2, 0, 1300, 0, 0, 2);
        x.receive(1, 0);
        are(x, "one received", 6, 2, 2, 0, 1300, 0, 0, 1);
        x.lose(1);
        are(x, "one lost", 6, 2, 2, 0, 1300, 0, 0, 0);
        x.tick(50);
        are(x, "one RECOVERED", 6, 2, 8, 50, 300, 1000, 1, 6);
        x.tick(60);
        are(x, "both RECOVERED", 6, 2, 8, 60, 0, 1300, 2, 6);
        x.proof(0);
        are(x, "one by proof", 6, 2, 8, 60, 0, 300, 2, 6);
        x.movement(1, 2, 70, 78, 10, 50);
        x.proof(2);
        are(x, "one DISCHARGED", 6, 3, 9, 60, 0, 300, 3, 7);
    }

    private static void countsMessagesOnTheirWay() {
        Check.sentence("7: messages on their way");
        for (Mail mail : Mail.values()) {
            Run x = mail.make();
            int onTheirWay = x.count(7);
            x.receive(3 - mail.receiver, mail.number);
            Check.due(mail + " at another office", x.count(7), onTheirWay);
            x.receive(mail.receiver, mail.number);
            int answers = mail == Mail.ENQUIRY ? 1 : 0;
            Check.due(mail + " received", x.count(7), onTheirWay - 1 + answers);
            x.lose(mail.number);
            Check.due(mail + " received and not lost", x.count(7), onTheirWay - 1 + answers);
        }
    }

    private static void sumsTheHighest() {
        Check.sentence("RESERVED is the sum of AMOUNTS of movements that have not ended.");
        Run x = new Run(2);
        for (int m = 0; m < 20; m++) {
            x.movement(0, 1, 0, 1, 1000, 1000000);
        }
        are(x, "all RESERVED", 2, 20, 20, 0, 20000000, 0, 0, 20);
        x.tick(40);
        are(x, "all RECOVERED", 2, 20, 80, 40, 0, 20000000, 20, 80);
    }

    private static void sumsTheLowest() {
        Check.sentence("RESERVED is the sum of AMOUNTS of movements that have not ended.");
        Run x = new Run(2);
        x.movement(0, 1, 0, 1, 1, 0);
        are(x, "nothing secured", 2, 1, 1, 0, 0, 0, 0, 1);
        x.tick(40);
        are(x, "RECOVERED all the same", 2, 1, 4, 40, 0, 0, 1, 4);
        Check.due("STATE", x.state(0, 0), 5);
    }

    private static void noneForAnotherWhat() {
        Check.sentence("NONE for another what.");
        Check.due("NONE", TransitSteps.NONE, -1);
        for (Scene scene : Scene.values()) {
            Run x = scene.make();
            for (int what : new int[] {-1, 8, 9, 100, 256, Integer.MIN_VALUE, Integer.MAX_VALUE}) {
                Check.idle(x, scene + ": count(" + what + ")", -1, () -> x.count(what));
            }
        }
    }
}
