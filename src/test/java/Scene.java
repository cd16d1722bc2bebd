/**
 * Where a movement may stand, each with the shortest run that brings it there. Movement 0 goes from office 1 to
 * office 2 of four, by day 10, under seal 77, with 5 pieces and 1000 secured; message 0 announces it.
 */
enum Scene {
    ON_THE_WAY(1) {
        @Override
        void go(Run x) {
            // As it began.
        }
    },
    ENQUIRED(4) {
        @Override
        void go(Run x) {
            x.tick(20);
        }
    },
    ARRIVED(2) {
        @Override
        void go(Run x) {
            x.arrive(0, 2, 77);
            x.receive(1, 1);
        }
    },
    DIFFERS(3) {
        @Override
        void go(Run x) {
            x.arrive(0, 2, 77);
            x.control(0, 3);
            x.receive(1, 2);
        }
    },
    RECOVERED(5) {
        @Override
        void go(Run x) {
            x.tick(50);
        }
    },
    DISCHARGED_BY_RESULT(6) {
        @Override
        void go(Run x) {
            x.arrive(0, 2, 77);
            x.control(0, 5);
            x.receive(1, 2);
        }
    },
    DISCHARGED_BY_PIECES(6) {
        @Override
        void go(Run x) {
            DIFFERS.go(x);
            x.discharge(0, 2);
        }
    },
    DISCHARGED_BY_PROOF(6) {
        @Override
        void go(Run x) {
            x.proof(0);
        }
    },
    DISCHARGED_AFTER_RECOVERY(6) {
        @Override
        void go(Run x) {
            x.tick(50);
            x.proof(0);
        }
    };

    static final int FROM = 1;
    static final int TO = 2;
    static final int BESIDE = 3;
    static final int LIMIT = 10;
    static final int SEAL = 77;
    static final int PIECES = 5;
    static final int AMOUNT = 1000;

    final int state;

    Scene(int state) {
        this.state = state;
    }

    abstract void go(Run x);

    boolean hasEnded() {
        return state >= 5;
    }

    static Run begun() {
        Run x = new Run(4);
        Check.due("the scene's movement", x.movement(FROM, TO, LIMIT, SEAL, PIECES, AMOUNT), 0);
        return x;
    }

    Run make() {
        Run x = begun();
        go(x);
        Check.due(this + ": STATE", x.state(0, 0), state);
        return x;
    }
}
