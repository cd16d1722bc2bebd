import java.util.Random;

/** Runs of calls drawn from fixed seeds: each answer, and now and then all that can be seen, against PlainTransit. */
public final class RandomRunsTest {
    private static final int RUNS = 1500;
    private static final int CALLS = 500;
    private static final int[] ODD = {-1, 0, 1, 2, 9, 20, 200, 1001, 10001, 1000000001, Integer.MIN_VALUE, Integer.MAX_VALUE};

    private interface Call {
        long answer();
    }

    private final Random random;
    private final Run x;
    private final PlainTransit plain;
    private final int run;

    private RandomRunsTest(int run) {
        this.run = run;
        random = new Random(run);
        int offices = random.nextInt(12) - 1;
        x = new Run(offices);
        plain = new PlainTransit(offices);
    }

    public static void main(String[] args) {
        for (int run = 0; run < RUNS; run++) {
            new RandomRunsTest(run).go();
        }
        Check.end();
    }

    private void go() {
        for (int i = 0; i < CALLS; i++) {
            step();
            if (i % 64 == 63) {
                lookAtAll();
            }
        }
        lookAtAll();
    }

    /** Mostly a number that can be, now and then one that can't. */
    private int some(int bound) {
        return random.nextInt(40) == 0 ? ODD[random.nextInt(ODD.length)] : random.nextInt(Math.max(bound, 1));
    }

    private void step() {
        int now = (int) plain.count(3);
        int a = some((int) plain.count(1));
        int b = some((int) plain.count(0));
        int c = some((int) plain.count(2));
        switch (random.nextInt(12)) {
            case 0: begin(now); break;
            case 1: {
                int seal = random.nextInt(10) == 0 ? some(5) : 1 + random.nextInt(2);
                same("arrive " + a + " " + b + " " + seal, () -> x.arrive(a, b, seal), plain.arrive(a, b, seal));
                break;
            }
            case 2: {
                int found = random.nextBoolean() ? 3 : some(7);
                same("control " + a + " " + found, () -> x.control(a, found), plain.control(a, found));
                break;
            }
            case 3: case 4: case 5: {
                int office = random.nextInt(8) == 0 ? b : (int) plain.message(c, 3);
                same("receive " + office + " " + c, () -> x.receive(office, c), plain.receive(office, c));
                break;
            }
            case 6: same("lose " + c, () -> x.lose(c) ? 1 : 0, plain.lose(c)); break;
            case 7: case 8: {
                int day = random.nextInt(60) == 0 ? some(10001) : now + random.nextInt(random.nextInt(10) == 0 ? 50 : 4);
                same("tick " + day, () -> x.tick(day), plain.tick(day));
                break;
            }
            case 9: {
                int pieces = some(4);
                same("discharge " + a + " " + pieces, () -> x.discharge(a, pieces), plain.discharge(a, pieces));
                break;
            }
            case 10:
                if (random.nextInt(4) == 0) {
                    same("proof " + a, () -> x.proof(a), plain.proof(a));
                }
                break;
            default: look(a, b, c); break;
        }
    }

    private void begin(int now) {
        int from = some((int) plain.count(0));
        int to = some((int) plain.count(0));
        int limit = random.nextInt(20) == 0 ? some(10001) : now + random.nextInt(12) - 1;
        int seal = random.nextInt(20) == 0 ? some(5) : 1;
        int pieces = random.nextInt(4) == 0 ? some(1001) : 3;
        int amount = some(1000001);
        same("movement " + from + " " + to + " " + limit + " " + seal + " " + pieces + " " + amount,
                () -> x.movement(from, to, limit, seal, pieces, amount),
                plain.movement(from, to, limit, seal, pieces, amount));
    }

    private void look(int movement, int office, int message) {
        int what = some(10);
        same("state " + movement + " " + what, () -> x.state(movement, what), plain.state(movement, what));
        same("office " + movement + " " + office, () -> x.office(movement, office), plain.office(movement, office));
        same("message " + message + " " + what, () -> x.message(message, what), plain.message(message, what));
        same("count " + what, () -> x.count(what), plain.count(what));
    }

    private void lookAtAll() {
        for (int what = -1; what <= 8; what++) {
            int w = what;
            same("count " + w, () -> x.count(w), plain.count(w));
        }
        for (int movement = 0; movement < plain.count(1); movement++) {
            int m = movement;
            for (int what = 0; what <= 8; what++) {
                int w = what;
                same("state " + m + " " + w, () -> x.state(m, w), plain.state(m, w));
            }
            for (int office = 0; office < plain.count(0); office++) {
                int o = office;
                same("office " + m + " " + o, () -> x.office(m, o), plain.office(m, o));
            }
        }
        for (int message = 0; message < plain.count(2); message++) {
            int i = message;
            for (int what = 0; what <= 6; what++) {
                int w = what;
                same("message " + i + " " + w, () -> x.message(i, w), plain.message(i, w));
            }
        }
    }

    private void same(String call, Call got, long want) {
        long answer;
        try {
            answer = got.answer();
        } catch (RuntimeException e) {
            answer = e.getClass() == Check.ARGUMENT ? PlainTransit.ARGUMENT
                    : e.getClass() == Check.STATE ? PlainTransit.STATE
                    : e.getClass() == Check.INDEX ? PlainTransit.INDEX : Long.MIN_VALUE;
        }
        Check.due("run " + run + ": " + call, answer, want);
    }
}
