/** A run that sends every message that can be sent: the class keeps room for just these 200. */
public final class BusiestRunTest {
    public static void main(String[] args) {
        TransitSteps x = new TransitSteps(3);
        for (int m = 0; m < 20; m++) {
            x.movement(0, 1, 0, 9, 5, 100);
        }
        for (int day = 10; day <= 20; day += 5) {
            int first = x.count(2);
            Check.due("tick(" + day + ")", x.tick(day), 20);
            for (int i = first; i < first + 20; i++) {
                Check.due("receive(1, " + i + ")", x.receive(1, i), 1);
            }
        }
        for (int m = 0; m < 20; m++) {
            Check.due("arrive " + m, x.arrive(m, 2, 9), 1);
            Check.due("control " + m, x.control(m, m % 2 == 0 ? 5 : 4), 1);
        }
        Check.due("messages", x.count(2), 200);
        Check.same("the last one", " 3 19 2 0 4 9 0", Look.message(x, 199));
        for (int i = 0; i < 200; i++) {
            int receiver = x.message(i, 3);
            Check.due("receive(" + receiver + ", " + i + ")", x.receive(receiver, i), i >= 20 && x.message(i, 0) == 4 ? 0 : 1);
        }
        Check.due("no message more", x.count(2), 200);
        Check.due("none on its way", x.count(7), 0);
        x.tick(10000);
        Check.due("no message more", x.count(2), 200);
        Check.due("all ended", x.count(6), 20);
        Check.due("ten recovered, a fifth each", x.count(5), 200);
        Check.thrown("receive(0, 200)", Check.ARGUMENT, () -> x.receive(0, 200));
        Check.thrown("message(200, 0)", Check.INDEX, () -> x.message(200, 0));
        Check.no("lose(200)", x.lose(200));
        Check.end();
    }
}
