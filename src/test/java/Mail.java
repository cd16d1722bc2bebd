/**
 * The six kinds of message, each with the shortest run that has one on its way, its number, the office that it is for,
 * and what can be seen of Scene's movement before it is received and behind that.
 */
enum Mail {
    ANNOUNCED(0, 2, " 1 0 0 0 -1 -1 -1 -1 0 offices 0 1 0 0", " 1 0 0 0 -1 -1 -1 -1 0 offices 0 1 2 0") {
        @Override
        void go(Run x) {
            // Sent as the movement began.
        }
    },
    ARRIVED(1, 1, " 1 0 0 0 -1 -1 -1 -1 0 offices 0 1 8 0", " 2 0 0 0 77 0 -1 -1 0 offices 0 1 8 0") {
        @Override
        void go(Run x) {
            x.arrive(0, 2, 77);
        }
    },
    RESULT(2, 1, " 1 0 0 0 -1 -1 -1 -1 0 offices 0 1 24 0", " 6 5 0 0 77 -1 5 0 0 offices 0 1 24 0") {
        @Override
        void go(Run x) {
            x.arrive(0, 2, 77);
            x.control(0, 5);
        }
    },
    ENQUIRY(1, 2, " 4 0 0 1 -1 -1 -1 -1 0 offices 0 1 0 0", " 4 0 0 1 -1 -1 -1 -1 0 offices 0 1 0 0") {
        @Override
        void go(Run x) {
            x.tick(20);
        }
    },
    NOTHING(2, 1, " 4 0 0 1 -1 -1 -1 -1 0 offices 0 1 0 0", " 4 0 0 1 -1 -1 -1 -1 0 offices 0 1 0 0") {
        @Override
        void go(Run x) {
            x.tick(20);
            x.receive(2, 1);
        }
    },
    ELSEWHERE(2, 2, " 1 0 0 0 -1 -1 -1 -1 0 offices 0 1 0 8", " 1 0 0 0 -1 -1 -1 -1 0 offices 0 1 4 8") {
        @Override
        void go(Run x) {
            x.arrive(0, 3, 77);
        }
    };

    final int kind = ordinal() + 1;
    final int number;
    final int receiver;
    final String before;
    final String behind;

    Mail(int number, int receiver, String before, String behind) {
        this.number = number;
        this.receiver = receiver;
        this.before = before;
        this.behind = behind;
    }

    abstract void go(Run x);

    /** How many messages there are once it is received: an ENQUIRY alone is answered by another one. */
    int messagesBehind() {
        return this == ENQUIRY ? number + 2 : number + 1;
    }

    Run make() {
        Run x = Scene.begun();
        go(x);
        Check.due(this + ": kind", x.message(number, 0), kind);
        Check.due(this + ": receiver", x.message(number, 3), receiver);
        Check.due(this + ": on its way", x.message(number, 6), 0);
        Check.due(this + ": it is the last", x.count(2), number + 1);
        Check.same(this + ": the movement", before, Look.movement(x, 0));
        return x;
    }
}
