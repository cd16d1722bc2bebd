public final class Promise11OfficeTest {
    public static void main(String[] args) {
        goodsAtTheDestination();
        goodsElsewhere();
        throwsForWrongInputs();
        Check.end();
    }

    private static void are(TransitSteps x, String when, int... due) {
        for (int office = 0; office < due.length; office++) {
            Check.due(when + ": office(0, " + office + ")", x.office(0, office), due[office]);
        }
    }

    private static void goodsAtTheDestination() {
        TransitSteps x = new TransitSteps(3);
        x.movement(2, 1, 10, 77, 10, 1000);
        are(x, "begun", 0, 0, 1);
        x.arrive(0, 1, 77);
        are(x, "arrived", 0, 8, 1);
        x.receive(1, 0);
        are(x, "announced", 0, 10, 1);
        x.control(0, 10);
        are(x, "controlled", 0, 26, 1);
        x.receive(2, 1);
        x.receive(2, 2);
        are(x, "DISCHARGED", 0, 26, 1);
    }

    private static void goodsElsewhere() {
        TransitSteps x = new TransitSteps(3);
        x.movement(2, 1, 10, 77, 10, 1000);
        x.arrive(0, 0, 77);
        are(x, "arrived elsewhere", 8, 0, 1);
        x.receive(1, 2);
        are(x, "told elsewhere", 8, 4, 1);
        x.receive(1, 0);
        are(x, "announced", 8, 6, 1);
        x.control(0, 10);
        are(x, "controlled", 24, 6, 1);
    }

    private static void throwsForWrongInputs() {
        TransitSteps x = new TransitSteps(3);
        Check.thrown("office(0, 0) of no movement", Check.INDEX, () -> x.office(0, 0));
        x.movement(2, 1, 10, 77, 10, 1000);
        for (int office : new int[] {-1, 3, 8, Integer.MIN_VALUE, Integer.MAX_VALUE}) {
            Check.refused(x, "office(0, " + office + ")", Check.INDEX, () -> x.office(0, office));
        }
        for (int m : new int[] {-1, 1, 19, 20, Integer.MIN_VALUE, Integer.MAX_VALUE}) {
            Check.refused(x, "office(" + m + ", 0)", Check.INDEX, () -> x.office(m, 0));
        }
    }
}
