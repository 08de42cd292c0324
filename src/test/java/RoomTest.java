import java.lang.management.ManagementFactory;

/** All calls of a run live in one room: after the constructor no call makes an object. */
public final class RoomTest {
    private static final Check check = new Check();

    public static void main(String[] args) {
        com.sun.management.ThreadMXBean threads = (com.sun.management.ThreadMXBean) ManagementFactory.getThreadMXBean();
        run(new CoalTurns());
        CoalTurns x = new CoalTurns();
        long before = threads.getCurrentThreadAllocatedBytes();
        int sum = run(x);
        long made = threads.getCurrentThreadAllocatedBytes() - before;
        check.isTrue("the calls answered", sum > 0);
        check.isTrue("a call makes no object (" + made + " bytes)", made < 1000);
        check.end();
    }

    private static int run(CoalTurns x) {
        int sum = 0;
        for (int s = 0; s < 20; s++) sum += x.ship(s % 4, s % 2, 200 + s, 10 + s, s % 6, 1 + s);
        for (int b = 0; b < 10; b++) sum += x.buyer(b % 6, b % 2, 100 * b, 10 + 3 * b);
        for (int d = 0; d < 30; d++) {
            sum += x.feed(0x7475726E2061736BL, 8) + x.feed(0x3B73656C6C2037L, 7) + x.order(d);
            sum += x.day(d % 3, d % 5, d % 7 == 0 ? 1 : 0);
            sum += x.turn(0) + x.clear(3) + x.held(d % 20) + x.tried(-1, 30, 1, 1, 0) + x.tried(0, 30, 1, 1, 1);
            sum += x.ask(d % 20, 5 + d) + x.want(d % 10, 50 * d, 60) + x.store(d % 6, d) + x.burn(d % 6, d % 5, d);
            sum += x.about(3, d % 13) + x.bargain(0, 3) + x.weighed(1, 1, 24, 1) + x.lasts(0, 1) + x.count(6) + x.factor(1);
        }
        return sum;
    }
}
