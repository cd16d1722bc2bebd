import java.util.function.IntConsumer;

/** The numbers of offices, movements and messages: the first and the last of each, and one beyond, in every call. */
public final class TermsNumbersTest {
    public static void main(String[] args) {
        offices();
        movements();
        twentyMovements();
        messages();
        Check.end();
    }

    /** What is no exception is taken, be it refused by an answer or not. */
    private static void taken(String call, IntConsumer what, int number) {
        try {
            what.accept(number);
        } catch (RuntimeException e) {
            Check.tell(call + " of " + number + " threw " + e.getClass().getName());
        }
    }

    private static void ends(Run x, String call, Class<? extends RuntimeException> want, int last, IntConsumer what) {
        for (int number : new int[] {Integer.MIN_VALUE, -1, last + 1, Integer.MAX_VALUE}) {
            Check.refused(x, call + " of " + number, want, () -> what.accept(number));
        }
        if (last >= 0) {
            taken(call, what, 0);
            taken(call, what, last);
        }
    }

    private static void offices() {
        Check.sentence("OFFICES 0 .. n - 1.");
        for (int asked = 1; asked <= 9; asked++) {
            Run x = new Run(asked);
            int n = x.count(0);
            x.movement(0, 1, 10, 77, 5, 1000);
            ends(x, "movement from", Check.ARGUMENT, n - 1, from -> x.movement(from, from == 0 ? 1 : 0, 10, 77, 5, 1000));
            ends(x, "movement to", Check.ARGUMENT, n - 1, to -> x.movement(to == 0 ? 1 : 0, to, 10, 77, 5, 1000));
            ends(x, "arrive at", Check.ARGUMENT, n - 1, office -> x.arrive(0, office, 77));
            ends(x, "receive at", Check.ARGUMENT, n - 1, office -> x.receive(office, 0));
            ends(x, "office", Check.INDEX, n - 1, office -> x.office(0, office));
        }
    }

    private static void everyCallOfAMovement(Run x, int last) {
        ends(x, "arrive", Check.ARGUMENT, last, m -> x.arrive(m, 1, 77));
        ends(x, "control", Check.ARGUMENT, last, m -> x.control(m, 5));
        ends(x, "discharge", Check.ARGUMENT, last, m -> x.discharge(m, 1));
        ends(x, "proof", Check.ARGUMENT, last, m -> x.proof(m));
        ends(x, "state", Check.INDEX, last, m -> x.state(m, 0));
        ends(x, "office", Check.INDEX, last, m -> x.office(m, 0));
    }

    private static void movements() {
        Check.sentence("A MOVEMENT 0, 1, .. (20 at most)");
        for (int many = 0; many <= 3; many++) {
            Run x = new Run(3);
            for (int m = 0; m < many; m++) {
                x.movement(0, 1, 10, 77, 5, 1000);
            }
            everyCallOfAMovement(x, many - 1);
        }
    }

    private static void twentyMovements() {
        Check.sentence("A MOVEMENT 0, 1, .. (20 at most)");
        for (int many = 19; many <= 20; many++) {
            Run x = new Run(2);
            for (int m = 0; m < many; m++) {
                x.movement(0, 1, 10, 77, 5, 1000);
            }
            everyCallOfAMovement(x, many - 1);
            Check.due("the last of " + many + " is DISCHARGED", x.state(many - 1, 0), 6);
            Check.due("the one ahead of it is not", x.state(many - 2, 0), 1);
        }
    }

    private static void messages() {
        Check.sentence("MESSAGES 0, 1, .. have a kind, a movement, the office that sends and the one that receives, and two values.");
        for (int many = 0; many <= 20; many++) {
            Run x = new Run(2);
            for (int m = 0; m < many; m++) {
                x.movement(0, 1, 10, 77, 5, 1000);
            }
            Check.due("messages", x.count(2), many);
            int last = many - 1;
            ends(x, "message", Check.INDEX, last, i -> x.message(i, 0));
            ends(x, "receive", Check.ARGUMENT, last, i -> x.receive(1, i));
            if (many > 1) {
                Check.due("the first is received", x.message(0, 6), 1);
                Check.due("the last is received", x.message(last, 6), 1);
            }
            for (int i : new int[] {Integer.MIN_VALUE, -1, many, Integer.MAX_VALUE}) {
                Check.idle(x, "lose " + i + " of " + many, 0, () -> x.lose(i) ? 1 : 0);
            }
        }
    }
}
