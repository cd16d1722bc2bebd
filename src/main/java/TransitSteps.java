/**
 * Transit: goods under seal from office to office. What an office knows of a movement is kept apart
 * from where the goods really are, since only messages carry the one over to the other.
 */
public final class TransitSteps {
    public static final int NONE = -1;

    private static final int FEWEST_OFFICES = 2;
    private static final int MOST_OFFICES = 8;
    private static final int OFFICES_IF_REFUSED = 4;
    private static final int LAST_DAY = 10000;
    private static final int HIGHEST_SEAL = 1000000000;
    private static final int MOST_PIECES = 1000;
    private static final int HIGHEST_AMOUNT = 1000000;
    private static final int MOST_MOVEMENTS = 20;

    // A movement makes ANNOUNCED, ARRIVED, ELSEWHERE and RESULT once each, three enquiries and
    // three answers, and a message that is received again makes none: no run needs more room.
    private static final int MOST_MESSAGES = 10 * MOST_MOVEMENTS;

    private static final int ON_THE_WAY = 1;
    private static final int ARRIVED = 2;
    private static final int DIFFERS = 3;
    private static final int ENQUIRED = 4;
    private static final int RECOVERED = 5;
    private static final int DISCHARGED = 6;

    private static final int ANNOUNCED_MESSAGE = 1;
    private static final int ARRIVED_MESSAGE = 2;
    private static final int RESULT_MESSAGE = 3;
    private static final int ENQUIRY_MESSAGE = 4;
    private static final int NOTHING_MESSAGE = 5;
    private static final int ELSEWHERE_MESSAGE = 6;

    private static final int ON_ITS_WAY = 0;
    private static final int RECEIVED = 1;
    private static final int LOST = 2;

    // Those of count's numbers that are sums over the movements.
    private static final int RESERVED_SUM = 4;
    private static final int RECOVERED_SUM = 5;
    private static final int ENDED_SUM = 6;

    // Days behind the LIMIT on which something may be due: three enquiries, then the recovery.
    private static final int[] DUE_BEHIND_LIMIT = {10, 15, 20, 40};
    private static final int RECOVERY_BEHIND_LIMIT = 40;
    private static final int PROOF_BEHIND_LIMIT = 70;
    private static final int MOST_DUE_DAYS = 4 * MOST_MOVEMENTS;

    private final int offices;
    private final Movement[] movements = new Movement[MOST_MOVEMENTS];
    private final Message[] messages = new Message[MOST_MESSAGES];
    private int movementCount = 0;
    private int messageCount = 0;
    private int now = 0;

    public TransitSteps(int offices) {
        boolean possible = offices >= FEWEST_OFFICES && offices <= MOST_OFFICES;
        this.offices = possible ? offices : OFFICES_IF_REFUSED;
    }

    public int movement(int from, int to, int limit, int seal, int pieces, int amount)
            throws IllegalArgumentException, IllegalStateException {
        if (!isOffice(from) || !isOffice(to) || from == to) {
            throw new IllegalArgumentException("a movement needs two offices");
        }
        if (!isWithin(limit, now, LAST_DAY)) {
            throw new IllegalArgumentException("the limit is ahead of now or too high");
        }
        if (!isWithin(seal, 1, HIGHEST_SEAL) || !isWithin(pieces, 1, MOST_PIECES)
                || !isWithin(amount, 0, HIGHEST_AMOUNT)) {
            throw new IllegalArgumentException("seal, pieces or amount can't be");
        }
        if (movementCount >= movements.length) {
            throw new IllegalStateException("there is no room for another movement");
        }
        int number = movementCount;
        movements[number] = new Movement(from, to, limit, seal, pieces, amount);
        movementCount++;
        send(ANNOUNCED_MESSAGE, number, from, to, pieces, limit);
        return number;
    }

    public int arrive(int movement, int office, int seal) throws IllegalArgumentException {
        Movement one = findMovement(movement);
        if (one == null || !isOffice(office) || !isWithin(seal, 0, HIGHEST_SEAL)) {
            throw new IllegalArgumentException("no such movement, office or seal");
        }
        if (one.haveArrived() || office == one.from || one.state == DISCHARGED) {
            return 0;
        }
        one.place = office;
        one.sealSeen = seal;
        one.late = now > one.limit;
        sendArrived(movement, one);
        if (office != one.to) {
            send(ELSEWHERE_MESSAGE, movement, office, one.to, office, 0);
        }
        return 1;
    }

    public int control(int movement, int found) throws IllegalArgumentException {
        Movement one = findMovement(movement);
        if (one == null || !isWithin(found, 0, MOST_PIECES)) {
            throw new IllegalArgumentException("no such movement, or found can't be");
        }
        if (!one.haveArrived() || one.wereControlled()) {
            return 0;
        }
        one.piecesFound = found;
        sendResult(movement, one);
        return 1;
    }

    public int receive(int office, int message) throws IllegalArgumentException {
        Message received = findMessage(message);
        if (!isOffice(office) || received == null) {
            throw new IllegalArgumentException("no such office or message");
        }
        if (received.standing != ON_ITS_WAY || received.receiver != office) {
            return 0;
        }
        received.standing = RECEIVED;
        Movement about = findMovement(received.movement);
        if (about != null) {
            actOn(received, about);
        }
        return 1;
    }

    public boolean lose(int message) {
        Message lost = findMessage(message);
        if (lost == null || lost.standing != ON_ITS_WAY) {
            return false;
        }
        lost.standing = LOST;
        return true;
    }

    public int tick(int day) throws IllegalArgumentException {
        if (!isWithin(day, now, LAST_DAY)) {
            throw new IllegalArgumentException("the day is ahead of now or too high");
        }
        int sent = 0;
        int due = nextDueDay(now);
        // Days on which nothing can be due are passed over: they would change nothing.
        for (int turn = 0; turn < MOST_DUE_DAYS && due <= day; turn++) {
            sent += passDueDay(due);
            due = nextDueDay(due);
        }
        now = day;
        return sent;
    }

    public int discharge(int movement, int n) throws IllegalArgumentException {
        Movement one = findMovement(movement);
        if (one == null || n < 1) {
            throw new IllegalArgumentException("no such movement, or n is below 1");
        }
        if (one.state != DIFFERS || n > one.piecesLeft()) {
            return NONE;
        }
        one.accounted += n;
        if (one.piecesLeft() == 0) {
            one.state = DISCHARGED;
        }
        return one.piecesLeft();
    }

    public int proof(int movement) throws IllegalArgumentException {
        Movement one = findMovement(movement);
        if (one == null) {
            throw new IllegalArgumentException("no such movement");
        }
        if (!one.hasEnded()) {
            one.state = DISCHARGED;
            return 1;
        }
        if (one.state == RECOVERED && now <= one.limit + PROOF_BEHIND_LIMIT) {
            one.state = DISCHARGED;
            one.recovered = 0;
            return 2;
        }
        return 0;
    }

    public int state(int movement, int what) throws IndexOutOfBoundsException {
        Movement one = findMovement(movement);
        if (one == null) {
            throw new IndexOutOfBoundsException("no such movement");
        }
        switch (what) {
            case 0:
                return one.state;
            case 1:
                return one.accounted;
            case 2:
                return one.recovered;
            case 3:
                return one.enquiries;
            case 4:
                return one.knownSeal;
            case 5:
                return one.knownLate;
            case 6:
                return one.knownFound;
            case 7:
                return one.knownFound == NONE ? NONE : one.pieces - one.knownFound;
            case 8:
                return bit(one.knownSeal != NONE && one.knownSeal != one.seal);
            default:
                throw new IndexOutOfBoundsException("no such what");
        }
    }

    public int office(int movement, int office) throws IndexOutOfBoundsException {
        Movement one = findMovement(movement);
        if (one == null || !isOffice(office)) {
            throw new IndexOutOfBoundsException("no such movement or office");
        }
        boolean destination = office == one.to;
        boolean goodsHere = office == one.place;
        return bit(office == one.from)
                + 2 * bit(destination && one.announced)
                + 4 * bit(destination && one.toldElsewhere)
                + 8 * bit(goodsHere)
                + 16 * bit(goodsHere && one.wereControlled());
    }

    public int message(int i, int what) throws IndexOutOfBoundsException {
        Message one = findMessage(i);
        if (one == null) {
            throw new IndexOutOfBoundsException("no such message");
        }
        switch (what) {
            case 0:
                return one.kind;
            case 1:
                return one.movement;
            case 2:
                return one.sender;
            case 3:
                return one.receiver;
            case 4:
                return one.first;
            case 5:
                return one.second;
            case 6:
                return one.standing;
            default:
                throw new IndexOutOfBoundsException("no such what");
        }
    }

    public int count(int what) {
        switch (what) {
            case 0:
                return offices;
            case 1:
                return movementCount;
            case 2:
                return messageCount;
            case 3:
                return now;
            case RESERVED_SUM:
            case RECOVERED_SUM:
            case ENDED_SUM:
                return sumOverMovements(what);
            case 7:
                return countOnTheirWay();
            default:
                return NONE;
        }
    }

    private static boolean isWithin(int value, int lowest, int highest) {
        return value >= lowest && value <= highest;
    }

    private static int bit(boolean set) {
        return set ? 1 : 0;
    }

    private boolean isOffice(int number) {
        return number >= 0 && number < offices;
    }

    // Rows fill from the front and what is behind the last one is null, so null is 'none such'.
    private Movement findMovement(int number) {
        return number >= 0 && number < movements.length ? movements[number] : null;
    }

    private Message findMessage(int number) {
        return number >= 0 && number < messages.length ? messages[number] : null;
    }

    private void send(int kind, int movement, int sender, int receiver, int first, int second) {
        if (messageCount < messages.length) {
            messages[messageCount] = new Message(kind, movement, sender, receiver, first, second);
            messageCount++;
        }
    }

    private void sendArrived(int number, Movement about) {
        send(ARRIVED_MESSAGE, number, about.place, about.from, about.sealSeen, bit(about.late));
    }

    private void sendResult(int number, Movement about) {
        send(RESULT_MESSAGE, number, about.place, about.from, about.piecesFound, about.sealSeen);
    }

    private void actOn(Message received, Movement about) {
        switch (received.kind) {
            case ANNOUNCED_MESSAGE:
                about.announced = true;
                break;
            case ARRIVED_MESSAGE:
                about.learnArrival(received.first, received.second);
                break;
            case RESULT_MESSAGE:
                about.learnResult(received.first, received.second);
                break;
            case ENQUIRY_MESSAGE:
                answerEnquiry(received.movement, about);
                break;
            case ELSEWHERE_MESSAGE:
                about.toldElsewhere = true;
                break;
            default:
                break;
        }
    }

    // The destination speaks only of what is in its own hands: goods elsewhere are NOTHING to it.
    private void answerEnquiry(int number, Movement about) {
        if (about.place != about.to) {
            send(NOTHING_MESSAGE, number, about.to, about.from,
                    bit(about.announced), bit(about.toldElsewhere));
        } else if (about.wereControlled()) {
            sendResult(number, about);
        } else {
            sendArrived(number, about);
        }
    }

    private int nextDueDay(int after) {
        int next = LAST_DAY + 1;
        for (int i = 0; i < movements.length; i++) {
            Movement one = movements[i];
            if (one != null) {
                next = Math.min(next, one.firstDueDay(after));
            }
        }
        return next;
    }

    private int passDueDay(int day) {
        int sent = 0;
        for (int i = 0; i < movements.length; i++) {
            Movement one = movements[i];
            if (one == null || !one.isDueOn(day)) {
                continue;
            }
            if (day == one.limit + RECOVERY_BEHIND_LIMIT) {
                one.recover();
            } else if (one.isAwaited()) {
                one.enquiries++;
                one.state = ENQUIRED;
                send(ENQUIRY_MESSAGE, i, one.from, one.to, one.enquiries, 0);
                sent++;
            }
        }
        return sent;
    }

    private int sumOverMovements(int what) {
        int sum = 0;
        for (int i = 0; i < movements.length; i++) {
            Movement one = movements[i];
            if (one != null) {
                sum += one.shareInSum(what);
            }
        }
        return sum;
    }

    private int countOnTheirWay() {
        int onTheirWay = 0;
        for (int i = 0; i < messages.length; i++) {
            Message one = messages[i];
            if (one != null && one.standing == ON_ITS_WAY) {
                onTheirWay++;
            }
        }
        return onTheirWay;
    }

    private static final class Movement {
        final int from;
        final int to;
        final int limit;
        final int seal;
        final int pieces;
        final int amount;

        // The goods as they really are; no office reads these but the one where they are.
        int place = NONE;
        int sealSeen = NONE;
        boolean late = false;
        int piecesFound = NONE;

        // What the departure holds.
        int state = ON_THE_WAY;
        int accounted = 0;
        int recovered = 0;
        int enquiries = 0;
        int knownSeal = NONE;
        int knownLate = NONE;
        int knownFound = NONE;

        // What the destination was told.
        boolean announced = false;
        boolean toldElsewhere = false;

        Movement(int from, int to, int limit, int seal, int pieces, int amount) {
            this.from = from;
            this.to = to;
            this.limit = limit;
            this.seal = seal;
            this.pieces = pieces;
            this.amount = amount;
        }

        boolean haveArrived() {
            return place != NONE;
        }

        boolean wereControlled() {
            return piecesFound != NONE;
        }

        boolean hasEnded() {
            return state == RECOVERED || state == DISCHARGED;
        }

        boolean isAwaited() {
            return state == ON_THE_WAY || state == ENQUIRED;
        }

        int piecesLeft() {
            return pieces - accounted;
        }

        int shareInSum(int what) {
            switch (what) {
                case RESERVED_SUM:
                    return hasEnded() ? 0 : amount;
                case RECOVERED_SUM:
                    return recovered;
                case ENDED_SUM:
                    return bit(hasEnded());
                default:
                    return 0;
            }
        }

        int firstDueDay(int after) {
            for (int i = 0; i < DUE_BEHIND_LIMIT.length; i++) {
                int day = limit + DUE_BEHIND_LIMIT[i];
                if (day > after) {
                    return day;
                }
            }
            return LAST_DAY + 1;
        }

        boolean isDueOn(int day) {
            return firstDueDay(day - 1) == day;
        }

        void learnArrival(int toldSeal, int toldLate) {
            knownSeal = toldSeal;
            knownLate = toldLate;
            if (isAwaited()) {
                state = ARRIVED;
            }
        }

        // Of an ended movement the departure still learns, but what has ended stays as it is.
        void learnResult(int toldFound, int toldSeal) {
            knownFound = toldFound;
            knownSeal = toldSeal;
            if (hasEnded()) {
                return;
            }
            accounted = Math.max(accounted, Math.min(toldFound, pieces));
            state = toldSeal == seal && toldFound == pieces ? DISCHARGED : DIFFERS;
        }

        void recover() {
            if (!hasEnded()) {
                recovered = shareOfMissing();
                state = RECOVERED;
            }
        }

        // At most 1000000 * 1000 + 999, which an int holds.
        private int shareOfMissing() {
            return pieces < 1 ? 0 : (amount * piecesLeft() + pieces - 1) / pieces;
        }
    }

    private static final class Message {
        final int kind;
        final int movement;
        final int sender;
        final int receiver;
        final int first;
        final int second;
        int standing = ON_ITS_WAY;

        Message(int kind, int movement, int sender, int receiver, int first, int second) {
            this.kind = kind;
            this.movement = movement;
            this.sender = sender;
            this.receiver = receiver;
            this.first = first;
            this.second = second;
        }
    }
}
