import java.util.ArrayList;
import java.util.List;

/**
 * A run of calls. The document promises the answers to an object's first 512 calls alone, so no object is called
 * oftener: when questions have used one up, a new one is made and told the same run again, and must answer the same.
 */
final class Run {
    static final int MOST_CALLS = 512;

    private interface Call {
        long on(TransitSteps x);
    }

    /** A call of the run, and how it ended: by an answer or by a kind of exception. */
    private static final class Told {
        final Call call;
        String end = "";

        Told(Call call) {
            this.call = call;
        }
    }

    private final int offices;
    private final List<Told> run = new ArrayList<>();
    private TransitSteps x;
    private int used = 0;

    Run(int offices) {
        this.offices = offices;
        x = new TransitSteps(offices);
    }

    int movement(int from, int to, int limit, int seal, int pieces, int amount) {
        return (int) tell(y -> y.movement(from, to, limit, seal, pieces, amount));
    }

    int arrive(int movement, int office, int seal) {
        return (int) tell(y -> y.arrive(movement, office, seal));
    }

    int control(int movement, int found) {
        return (int) tell(y -> y.control(movement, found));
    }

    int receive(int office, int message) {
        return (int) tell(y -> y.receive(office, message));
    }

    boolean lose(int message) {
        return tell(y -> y.lose(message) ? 1 : 0) == 1;
    }

    int tick(int day) {
        return (int) tell(y -> y.tick(day));
    }

    int discharge(int movement, int n) {
        return (int) tell(y -> y.discharge(movement, n));
    }

    int proof(int movement) {
        return (int) tell(y -> y.proof(movement));
    }

    int state(int movement, int what) {
        return (int) ask(y -> y.state(movement, what));
    }

    int office(int movement, int office) {
        return (int) ask(y -> y.office(movement, office));
    }

    int message(int i, int what) {
        return (int) ask(y -> y.message(i, what));
    }

    int count(int what) {
        return (int) ask(y -> y.count(what));
    }

    /** How many calls the run has, questions left out. */
    int length() {
        return run.size();
    }

    private long tell(Call call) {
        renewIfUsedUp();
        Told one = new Told(call);
        run.add(one);
        used++;
        try {
            long answer = call.on(x);
            one.end = String.valueOf(answer);
            return answer;
        } catch (RuntimeException e) {
            one.end = e.getClass().getName();
            throw e;
        }
    }

    private long ask(Call call) {
        renewIfUsedUp();
        used++;
        return call.on(x);
    }

    private void renewIfUsedUp() {
        if (used < MOST_CALLS) {
            return;
        }
        if (run.size() >= MOST_CALLS) {
            throw new AssertionError("a test's run has no room for another call");
        }
        x = new TransitSteps(offices);
        used = run.size();
        for (int i = 0; i < run.size(); i++) {
            Check.same("call " + i + " told again to a new object", run.get(i).end, endOf(run.get(i).call));
        }
    }

    private String endOf(Call call) {
        try {
            return String.valueOf(call.on(x));
        } catch (RuntimeException e) {
            return e.getClass().getName();
        }
    }
}
