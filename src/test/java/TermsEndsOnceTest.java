/** 'each movement ends once', and what is refused changes nothing, wherever a movement stands. */
public final class TermsEndsOnceTest {
    public static void main(String[] args) {
        endsOnce();
        fiveAndSixEnd();
        refusedChangesNothing();
        thrownChangesNothing();
        refusedDoesNotHinder();
        Check.end();
    }

    /** Behind its end a movement's goods may be seen and told of; its STATE and the sums stay. */
    private static void endsOnce() {
        Check.sentence("each movement ends once");
        for (Scene scene : Scene.values()) {
            if (!scene.hasEnded()) {
                continue;
            }
            Run x = scene.make();
            int accounted = x.state(0, 1);
            int recovered = x.state(0, 2);
            x.tick(81);
            x.arrive(0, 2, 70);
            x.control(0, 4);
            x.discharge(0, 1);
            x.proof(0);
            receiveAll(x);
            x.tick(10000);
            receiveAll(x);
            Check.due(scene + ": STATE", x.state(0, 0), scene.state);
            Check.due(scene + ": ACCOUNTED", x.state(0, 1), accounted);
            Check.due(scene + ": RECOVERED", x.state(0, 2), recovered);
            Check.due(scene + ": ended", x.count(6), 1);
            Check.due(scene + ": RESERVED", x.count(4), 0);
            Check.due(scene + ": sum RECOVERED", x.count(5), recovered);
            Check.due(scene + ": on their way", x.count(7), 0);
        }
    }

    private static void receiveAll(Run x) {
        for (int i = 0; i < x.count(2); i++) {
            x.receive(x.message(i, 3), i);
        }
    }

    private static void fiveAndSixEnd() {
        Check.sentence("5 and 6 END it (but for a proof in time, below).");
        for (Scene scene : Scene.values()) {
            Run x = scene.make();
            Check.due(scene + ": ended", x.count(6), scene.state >= 5 ? 1 : 0);
            Check.due(scene + ": proof", x.proof(0), scene.state == 5 ? 2 : scene.state == 6 ? 0 : 1);
            Check.due(scene + ": ended behind a proof", x.count(6), 1);
            Check.due(scene + ": DISCHARGED behind a proof", x.state(0, 0), 6);
        }
    }

    private static void refusedChangesNothing() {
        Check.sentence("What throws, or is refused by 0, changes nothing.");
        for (Scene scene : Scene.values()) {
            Run x = scene.make();
            boolean arrived = (x.office(0, 2) & 8) != 0;
            boolean controlled = (x.office(0, 2) & 16) != 0;
            Check.idle(x, scene + ": arrive at the departure", 0, () -> x.arrive(0, 1, 77));
            if (arrived || scene.state == 6) {
                Check.idle(x, scene + ": arrive", 0, () -> x.arrive(0, 3, 70));
            }
            if (!arrived || controlled) {
                Check.idle(x, scene + ": control", 0, () -> x.control(0, 3));
            }
            Check.idle(x, scene + ": receive at another office", 0, () -> x.receive(0, 0));
            Check.idle(x, scene + ": more than are left", -1, () -> x.discharge(0, 6));
            Check.idle(x, scene + ": lose none such", 0, () -> x.lose(x.count(2)) ? 1 : 0);
            Check.idle(x, scene + ": the same day", 0, () -> x.tick(x.count(3)));
            if (scene.state == 6) {
                Check.idle(x, scene + ": proof", 0, () -> x.proof(0));
            }
        }
    }

    private static void thrownChangesNothing() {
        Check.sentence("What throws, or is refused by 0, changes nothing.");
        for (Scene scene : Scene.values()) {
            Run x = scene.make();
            int now = x.count(3);
            int messages = x.count(2);
            Check.refused(x, scene + ": movement to itself", Check.ARGUMENT, () -> x.movement(0, 0, 9000, 1, 1, 1));
            Check.refused(x, scene + ": movement with limit yesterday", Check.ARGUMENT, () -> x.movement(0, 1, now - 1, 1, 1, 1));
            Check.refused(x, scene + ": movement with a wrong amount", Check.ARGUMENT, () -> x.movement(0, 1, 9000, 1, 1, -1));
            Check.refused(x, scene + ": arrive of none such", Check.ARGUMENT, () -> x.arrive(1, 2, 77));
            Check.refused(x, scene + ": control of none such", Check.ARGUMENT, () -> x.control(1, 5));
            Check.refused(x, scene + ": receive of none such", Check.ARGUMENT, () -> x.receive(2, messages));
            Check.refused(x, scene + ": receive at no office", Check.ARGUMENT, () -> x.receive(4, 0));
            Check.refused(x, scene + ": tick to yesterday", Check.ARGUMENT, () -> x.tick(now - 1));
            Check.refused(x, scene + ": tick beyond the last day", Check.ARGUMENT, () -> x.tick(10001));
            Check.refused(x, scene + ": discharge of none such", Check.ARGUMENT, () -> x.discharge(1, 1));
            Check.refused(x, scene + ": proof of none such", Check.ARGUMENT, () -> x.proof(1));
            Check.refused(x, scene + ": state of none such", Check.INDEX, () -> x.state(1, 0));
            Check.refused(x, scene + ": office of none such", Check.INDEX, () -> x.office(1, 0));
            Check.refused(x, scene + ": message of none such", Check.INDEX, () -> x.message(messages, 0));
        }
    }

    /** What was refused once leaves the way free for the same call done right. */
    private static void refusedDoesNotHinder() {
        Check.sentence("What throws, or is refused by 0, changes nothing.");
        Run x = Scene.begun();
        Check.due("arrive at the departure", x.arrive(0, 1, 70), 0);
        Check.due("control ahead of the arrival", x.control(0, 1), 0);
        Check.due("receive at another office", x.receive(1, 0), 0);
        Check.due("discharge ahead of the difference", x.discharge(0, 1), -1);
        Check.thrown("tick(-1)", Check.ARGUMENT, () -> x.tick(-1));
        Check.thrown("seal -1", Check.ARGUMENT, () -> x.arrive(0, 2, -1));
        Check.due("receive", x.receive(2, 0), 1);
        Check.due("arrive", x.arrive(0, 2, 77), 1);
        Check.thrown("found -1", Check.ARGUMENT, () -> x.control(0, -1));
        Check.due("control", x.control(0, 4), 1);
        Check.due("receive the RESULT", x.receive(1, 2), 1);
        Check.thrown("discharge of 0", Check.ARGUMENT, () -> x.discharge(0, 0));
        Check.due("too many", x.discharge(0, 2), -1);
        Check.due("just those", x.discharge(0, 1), 0);
        Check.same("the movement", " 6 5 0 0 77 -1 4 1 0 offices 0 1 26 0", Look.movement(x, 0));
    }
}
