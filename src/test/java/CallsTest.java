/** 'An object is used for at most 512 calls after it has been made': all of these are answered as due. */
public final class CallsTest {
    public static void main(String[] args) {
        theLastCallStillActs();
        questionsAndRefusalsLeaveRoom();
        allMessages();
        Check.end();
    }

    private static void theLastCallStillActs() {
        Check.sentence("An object is used for at most 512 calls after it has been made");
        TransitSteps x = new TransitSteps(3);
        int calls = 0;
        for (; calls < 20; calls++) {
            Check.due("movement", x.movement(0, 1, 0, 9, 5, 100), calls);
        }
        for (; calls < 500; calls++) {
            Check.due("tick(5)", x.tick(5), 0);
        }
        Check.due("call 501", x.arrive(19, 2, 9), 1);
        Check.due("call 502", x.control(19, 4), 1);
        Check.due("call 503", x.receive(0, 22), 1);
        Check.due("call 504", x.state(19, 0), 3);
        Check.due("call 505", x.discharge(19, 1), 0);
        Check.due("call 506", x.tick(20), 57);
        Check.due("call 507", x.receive(1, 79), 1);
        Check.yes("call 508", x.lose(80));
        Check.due("call 509", x.proof(18), 1);
        Check.due("call 510", x.message(80, 6), 2);
        Check.due("call 511", x.tick(10000), 0);
        Check.due("call 512", x.count(5), 1800);
    }

    private static void questionsAndRefusalsLeaveRoom() {
        Check.sentence("An object is used for at most 512 calls after it has been made");
        TransitSteps x = new TransitSteps(3);
        for (int call = 1; call <= 510; call++) {
            Check.thrown("call " + call, Check.ARGUMENT, () -> x.movement(0, 0, 0, 9, 5, 100));
        }
        Check.due("call 511", x.movement(0, 1, 0, 9, 5, 100), 0);
        Check.due("call 512", x.message(0, 0), 1);
    }

    /** Ten messages for each of twenty movements are all that can ever be sent. */
    private static void allMessages() {
        Check.sentence("MESSAGES 0, 1, .. have a kind, a movement, the office that sends and the one that receives, and two values.");
        Run x = new Run(3);
        for (int m = 0; m < 20; m++) {
            x.movement(0, 1, 0, 9, 5, 100);
        }
        for (int day = 10; day <= 20; day += 5) {
            int first = x.count(2);
            Check.due("tick(" + day + ")", x.tick(day), 20);
            for (int i = first; i < first + 20; i++) {
                Check.due("receive(1, " + i + ")", x.receive(1, i), 1);
            }
        }
        for (int m = 0; m < 20; m++) {
            Check.due("arrive " + m, x.arrive(m, 2, 9), 1);
            Check.due("control " + m, x.control(m, m % 2 == 0 ? 5 : 4), 1);
        }
        Check.due("messages", x.count(2), 200);
        Check.same("the last one", " 3 19 2 0 4 9 0", Look.message(x, 199));
        for (int i = 0; i < 200; i++) {
            Check.due("receive " + i, x.receive(x.message(i, 3), i), x.message(i, 0) == 4 ? 0 : 1);
        }
        x.tick(10000);
        Check.row("all told: count", x::count, 3, 20, 200, 10000, 0, 200, 20, 0);
        Check.refused(x, "receive(0, 200)", Check.ARGUMENT, () -> x.receive(0, 200));
        Check.refused(x, "message(200, 0)", Check.INDEX, () -> x.message(200, 0));
        Check.idle(x, "lose(200)", 0, () -> x.lose(200) ? 1 : 0);
    }
}
