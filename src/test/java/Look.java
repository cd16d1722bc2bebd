/** All that can be seen of an object, as one text, by the calls that only look. */
final class Look {
    private Look() {
    }

    static String at(TransitSteps x) {
        StringBuilder text = new StringBuilder("counts");
        for (int what = 0; what <= 7; what++) {
            text.append(' ').append(x.count(what));
        }
        for (int m = 0; m < x.count(1); m++) {
            text.append("\nmovement ").append(m).append(':');
            for (int what = 0; what <= 8; what++) {
                text.append(' ').append(x.state(m, what));
            }
            text.append(" offices");
            for (int office = 0; office < x.count(0); office++) {
                text.append(' ').append(x.office(m, office));
            }
        }
        for (int i = 0; i < x.count(2); i++) {
            text.append("\nmessage ").append(i).append(':').append(message(x, i));
        }
        return text.toString();
    }

    /** A message's six parts and its standing, e.g. " 1 0 0 1 5 10 0". */
    static String message(TransitSteps x, int i) {
        StringBuilder text = new StringBuilder();
        for (int what = 0; what <= 6; what++) {
            text.append(' ').append(x.message(i, what));
        }
        return text.toString();
    }
}
