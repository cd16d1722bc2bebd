/** All that can be seen of a run's object, as one text, by the calls that only look. */
final class Look {
    private Look() {
    }

    static String at(Run x) {
        StringBuilder text = new StringBuilder("counts");
        for (int what = 0; what <= 7; what++) {
            text.append(' ').append(x.count(what));
        }
        int movements = x.count(1);
        for (int m = 0; m < movements; m++) {
            text.append("\nmovement ").append(m).append(':').append(movement(x, m));
        }
        int messages = x.count(2);
        for (int i = 0; i < messages; i++) {
            text.append("\nmessage ").append(i).append(':').append(message(x, i));
        }
        return text.toString();
    }

    /** The nine answers of state, then what each office has of it. */
    static String movement(Run x, int m) {
        StringBuilder text = new StringBuilder();
        for (int what = 0; what <= 8; what++) {
            text.append(' ').append(x.state(m, what));
        }
        text.append(" offices");
        int offices = x.count(0);
        for (int office = 0; office < offices; office++) {
            text.append(' ').append(x.office(m, office));
        }
        return text.toString();
    }

    /** A message's six parts and its standing, e.g. " 1 0 0 1 5 10 0". */
    static String message(Run x, int i) {
        StringBuilder text = new StringBuilder();
        for (int what = 0; what <= 6; what++) {
            text.append(' ').append(x.message(i, what));
        }
        return text.toString();
    }
}
