public final class Promise05ReceiveTest {
    public static void main(String[] args) {
        announced();
        arrived();
        arrivedWhenEnquired();
        arrivedChangesNoOtherState();
        resultDischarges();
        resultDiffers();
        resultOfMoreThanAll();
        resultTwice();
        resultOfAnEndedMovement();
        resultAheadOfArrived();
        enquiryAnsweredByNothing();
        enquiryAnsweredByArrived();
        enquiryAnsweredByResult();
        enquiryWhenTheGoodsAreElsewhere();
        enquiryOfAnEndedMovement();
        isRefused();
        throwsForWrongInputs();
        Check.end();
    }

    /** From 1 to 2, limit 10, seal 77, 5 pieces, 1000 secured; message 0 announces it. */
    private static TransitSteps oneMovement() {
        TransitSteps x = new TransitSteps(4);
        x.movement(1, 2, 10, 77, 5, 1000);
        return x;
    }

    private static void receive(TransitSteps x, int office, int message) {
        Check.due("receive(" + office + ", " + message + ")", x.receive(office, message), 1);
        Check.due("message " + message + " is received", x.message(message, 6), 1);
    }

    private static void isIn(TransitSteps x, String when, int state, int accounted) {
        Check.due(when + ": STATE", x.state(0, 0), state);
        Check.due(when + ": ACCOUNTED", x.state(0, 1), accounted);
    }

    private static void announced() {
        TransitSteps x = oneMovement();
        receive(x, 2, 0);
        Check.due("the destination knows of it", x.office(0, 2), 2);
        Check.due("the departure is as it was", x.office(0, 1), 1);
        isIn(x, "ANNOUNCED", 1, 0);
        Check.due("no message came of it", x.count(2), 1);
    }

    private static void arrived() {
        TransitSteps x = oneMovement();
        x.arrive(0, 2, 70);
        receive(x, 1, 1);
        isIn(x, "ARRIVED", 2, 0);
        Check.due("seal known", x.state(0, 4), 70);
        Check.due("known as not LATE", x.state(0, 5), 0);
        Check.due("FOUND not told", x.state(0, 6), -1);
        Check.due("seal differs", x.state(0, 8), 1);
        Check.due("no message came of it", x.count(2), 2);
    }

    private static void arrivedWhenEnquired() {
        TransitSteps x = oneMovement();
        x.tick(20);
        x.arrive(0, 3, 77);
        receive(x, 1, 2);
        isIn(x, "ARRIVED when ENQUIRED", 2, 0);
        Check.due("known as LATE", x.state(0, 5), 1);
        Check.due("seal does not differ", x.state(0, 8), 0);
    }

    private static void arrivedChangesNoOtherState() {
        TransitSteps x = oneMovement();
        x.arrive(0, 2, 77);
        x.proof(0);
        receive(x, 1, 1);
        isIn(x, "ARRIVED when DISCHARGED", 6, 0);
        Check.due("seal known all the same", x.state(0, 4), 77);
        TransitSteps y = oneMovement();
        y.arrive(0, 2, 77);
        y.control(0, 3);
        receive(y, 1, 2);
        isIn(y, "RESULT", 3, 3);
        receive(y, 1, 1);
        isIn(y, "ARRIVED when it DIFFERS", 3, 3);
    }

    private static void resultDischarges() {
        TransitSteps x = oneMovement();
        x.arrive(0, 2, 77);
        x.control(0, 5);
        receive(x, 1, 1);
        receive(x, 1, 2);
        isIn(x, "just PIECES and the seal", 6, 5);
        Check.due("FOUND", x.state(0, 6), 5);
        Check.due("RESERVED", x.count(4), 0);
    }

    private static void resultDiffers() {
        TransitSteps x = oneMovement();
        x.arrive(0, 2, 77);
        x.control(0, 4);
        receive(x, 1, 2);
        isIn(x, "one too few", 3, 4);
        Check.due("RESERVED", x.count(4), 1000);
        TransitSteps y = oneMovement();
        y.arrive(0, 2, 76);
        y.control(0, 5);
        receive(y, 1, 2);
        isIn(y, "another seal", 3, 5);
        Check.due("seal differs", y.state(0, 8), 1);
        TransitSteps z = oneMovement();
        z.arrive(0, 2, 77);
        z.control(0, 0);
        receive(z, 1, 2);
        isIn(z, "none FOUND", 3, 0);
        Check.due("FOUND 0 is told", z.state(0, 6), 0);
    }

    private static void resultOfMoreThanAll() {
        TransitSteps x = oneMovement();
        x.arrive(0, 2, 77);
        x.control(0, 7);
        receive(x, 1, 2);
        isIn(x, "more than PIECES", 3, 5);
        Check.due("FOUND", x.state(0, 6), 7);
        Check.due("pieces less FOUND", x.state(0, 7), -2);
    }

    /** A RESULT that comes again by an enquiry takes back nothing that was accounted for since. */
    private static void resultTwice() {
        TransitSteps x = oneMovement();
        x.tick(20);
        x.arrive(0, 2, 77);
        x.control(0, 3);
        receive(x, 2, 1);
        receive(x, 1, 3);
        Check.due("discharge(0, 1)", x.discharge(0, 1), 1);
        receive(x, 1, 4);
        isIn(x, "RESULT again", 3, 4);
    }

    private static void resultOfAnEndedMovement() {
        TransitSteps x = oneMovement();
        x.arrive(0, 2, 70);
        x.control(0, 5);
        x.tick(50);
        isIn(x, "40 days behind", 5, 0);
        receive(x, 1, 2);
        isIn(x, "RESULT when RECOVERED", 5, 0);
        Check.due("FOUND is known", x.state(0, 6), 5);
        Check.due("seal is known", x.state(0, 4), 70);
        Check.due("what was RECOVERED stays", x.state(0, 2), 1000);
    }

    private static void resultAheadOfArrived() {
        TransitSteps x = oneMovement();
        x.arrive(0, 3, 77);
        x.control(0, 5);
        receive(x, 1, 3);
        isIn(x, "RESULT first", 6, 5);
        Check.due("LATE not told", x.state(0, 5), -1);
        receive(x, 1, 1);
        isIn(x, "ARRIVED behind it", 6, 5);
        Check.due("LATE told", x.state(0, 5), 0);
    }

    private static void enquiryAnsweredByNothing() {
        TransitSteps x = oneMovement();
        x.tick(25);
        receive(x, 2, 1);
        Check.same("knows nothing", " 5 0 2 1 0 0 0", Look.message(x, 3));
        Check.due("an enquiry announces nothing", x.office(0, 2), 0);
        receive(x, 2, 0);
        receive(x, 2, 2);
        Check.same("knows of it", " 5 0 2 1 1 0 0", Look.message(x, 4));
        String before = Look.at(x).replace("message 4: 5 0 2 1 1 0 0", "message 4: 5 0 2 1 1 0 1");
        receive(x, 1, 4);
        Check.same("NOTHING, but for its receipt and the count of those on their way",
                before.substring(before.indexOf('\n')), Look.at(x).substring(Look.at(x).indexOf('\n')));
    }

    private static void enquiryAnsweredByArrived() {
        TransitSteps x = oneMovement();
        x.tick(10);
        x.arrive(0, 2, 70);
        x.tick(20);
        receive(x, 2, 2);
        Check.same("ARRIVED, of its own day", " 2 0 2 1 70 0 0", Look.message(x, 3));
        receive(x, 1, 3);
        isIn(x, "the answer", 2, 0);
        TransitSteps y = oneMovement();
        y.tick(20);
        y.arrive(0, 2, 77);
        receive(y, 2, 1);
        Check.same("ARRIVED and LATE", " 2 0 2 1 77 1 0", Look.message(y, 3));
    }

    private static void enquiryAnsweredByResult() {
        TransitSteps x = oneMovement();
        x.arrive(0, 2, 77);
        x.control(0, 5);
        x.lose(1);
        x.lose(2);
        x.tick(20);
        receive(x, 2, 3);
        Check.same("RESULT", " 3 0 2 1 5 77 0", Look.message(x, 4));
        Check.due("RESULT alone", x.count(2), 5);
        receive(x, 1, 4);
        isIn(x, "the answer", 6, 5);
    }

    private static void enquiryWhenTheGoodsAreElsewhere() {
        TransitSteps x = oneMovement();
        x.arrive(0, 3, 77);
        x.control(0, 5);
        x.tick(25);
        receive(x, 2, 4);
        Check.same("not told yet", " 5 0 2 1 0 0 0", Look.message(x, 6));
        receive(x, 2, 2);
        Check.due("told ELSEWHERE", x.office(0, 2), 4);
        receive(x, 2, 5);
        Check.same("told", " 5 0 2 1 0 1 0", Look.message(x, 7));
        receive(x, 2, 0);
        Check.due("told both", x.office(0, 2), 6);
        x.tick(30);
        receive(x, 2, 8);
        Check.same("told both", " 5 0 2 1 1 1 0", Look.message(x, 9));
    }

    private static void enquiryOfAnEndedMovement() {
        TransitSteps x = oneMovement();
        x.tick(20);
        x.proof(0);
        receive(x, 2, 1);
        Check.same("answered all the same", " 5 0 2 1 0 0 0", Look.message(x, 2));
    }

    private static void isRefused() {
        TransitSteps x = oneMovement();
        x.tick(20);
        refusedByNought(x, "for another office", 3, 0);
        refusedByNought(x, "by the sender", 1, 0);
        receive(x, 2, 1);
        refusedByNought(x, "received", 2, 1);
        refusedByNought(x, "received, for another office", 1, 1);
        x.lose(0);
        refusedByNought(x, "lost", 2, 0);
    }

    private static void refusedByNought(TransitSteps x, String when, int office, int message) {
        String before = Look.at(x);
        Check.due("receive " + when, x.receive(office, message), 0);
        Check.same("receive " + when, before, Look.at(x));
    }

    private static void throwsForWrongInputs() {
        TransitSteps x = oneMovement();
        for (int office : new int[] {-1, 4, 8, Integer.MIN_VALUE, Integer.MAX_VALUE}) {
            Check.refused(x, "receive(" + office + ", 0)", Check.ARGUMENT, () -> x.receive(office, 0));
        }
        for (int i : new int[] {-1, 1, 199, 200, 1000, Integer.MIN_VALUE, Integer.MAX_VALUE}) {
            Check.refused(x, "receive(2, " + i + ")", Check.ARGUMENT, () -> x.receive(2, i));
        }
        x.receive(2, 0);
        Check.refused(x, "a received one at no office", Check.ARGUMENT, () -> x.receive(4, 0));
    }
}
