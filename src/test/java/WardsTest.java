/** Promises 20 to 26: measure, weighed, ward, lasts, tried, count, factor. */
public final class WardsTest {
    private static final int NONE = CoalTurns.NONE, BAD = CoalTurns.BAD;
    private static final Check check = new Check();

    public static void main(String[] args) {
        measureIsRefused();
        loadsAreWeighed();
        weighedIsRefused();
        wardsTell();
        storesLast();
        triedIsRefused();
        triedDays();
        triedOrders();
        triedGoesOnFromNow();
        triedLacks();
        triedChangesNothing();
        countsTell();
        factorsTell();
        check.end();
    }

    private static void measureIsRefused() {
        CoalTurns x = new CoalTurns();
        int[][] wrongs = {{0, 5}, {6, 5}, {1, 100}, {-5, -1}, {100, 100}};
        for (int[] w : wrongs) check.due("measure", x.measure(w[0], w[1]), BAD);
        Check.near(x, 0, 0, 10, 10);
        check.due("LEAST at first", x.weighed(0, 0, 0, 0), 200);
        check.due("MOST at first", x.weighed(0, 0, 0, 1), 280);
        check.due("1 .. 99", x.measure(1, 99), 0);
        check.due("LEAST", x.weighed(0, 0, 0, 0), 10);
        check.due("MOST", x.weighed(0, 0, 0, 1), 990);
        check.due("both alike", x.measure(99, 99), 0);
    }

    private static void loadsAreWeighed() {
        CoalTurns x = new CoalTurns();
        Check.near(x, 0, 0, 10, 10);
        x.buyer(0, 0, 10, 20);
        x.day(1, 0, 0);
        check.due("the whole LOAD, sold or not", x.weighed(0, 4, 90, 0), 210);
        check.due("at most", x.weighed(0, 4, 90, 1), 258);
        check.due("not SHORT", x.weighed(0, 4, 90, 2), 0);
        check.due("just not SHORT", x.weighed(0, 10, 240, 2), 0);
        check.due("SHORT", x.weighed(0, 10, 239, 2), 1);
        x.measure(10, 23);
        check.due("SHORT without any", x.weighed(0, 0, 0, 2), 1);
    }

    private static void weighedIsRefused() {
        CoalTurns x = new CoalTurns();
        check.due("no SHIP", x.weighed(0, 0, 0, 0), NONE);
        Check.near(x, 0, 0, 10, 10);
        check.due("what 3", x.weighed(0, 99, 0, 3), NONE);
        check.due("what -1", x.weighed(0, 0, 0, -1), NONE);
        check.due("k -1", x.weighed(0, -1, -20, 0), BAD);
        check.due("k 11", x.weighed(0, 11, 220, 0), BAD);
        check.due("too light", x.weighed(0, 2, 39, 0), BAD);
        check.due("too heavy", x.weighed(0, 2, 57, 0), BAD);
        check.due("least", x.weighed(0, 2, 40, 0), 200);
        check.due("most", x.weighed(0, 2, 56, 1), 280);
        check.due("k most", x.weighed(0, Integer.MAX_VALUE, 0, 0), BAD);
        check.due("weight without any", x.weighed(0, 0, 1, 0), BAD);
        x.measure(24, 24);
        check.due("k -1 of one weight", x.weighed(0, -1, -24, 0), BAD);
    }

    private static void wardsTell() {
        CoalTurns x = new CoalTurns();
        Check.near(x, 0, 0, 10, 10);
        x.buyer(2, 0, 10, 20);
        x.store(2, 5);
        x.burn(2, 0, 12);
        x.day(1, 0, 0);
        check.due("STORE", x.ward(2, 0), 3);
        check.due("LACKED", x.ward(2, 1), 0);
        check.due("burnt", x.ward(2, 2), 12);
        check.due("came", x.ward(2, 3), 10);
        x.day(1, 0, 0);
        check.due("LACKED", x.ward(2, 1), 1);
        check.due("burnt", x.ward(2, 2), 15);
        check.due("what 4", x.ward(2, 4), NONE);
        check.due("what -1", x.ward(2, -1), NONE);
        check.due("ward 6", x.ward(6, 0), NONE);
        check.due("ward -1", x.ward(-1, 0), NONE);
    }

    private static void storesLast() {
        CoalTurns x = new CoalTurns();
        x.store(1, 4999);
        x.burn(1, 1, 5);
        x.burn(1, 2, 500);
        x.burn(0, 1, 1);
        check.due("ever", x.lasts(1, 0), 1000);
        check.due("999", x.lasts(1, 1), 999);
        check.due("9", x.lasts(1, 2), 9);
        x.store(1, 1);
        check.due("1000", x.lasts(1, 1), 1000);
        x.store(1, 5000);
        check.due("as long as that", x.lasts(1, 1), 1000);
        check.due("empty", x.lasts(0, 1), 0);
        check.due("ward 6", x.lasts(6, 9), NONE);
        check.due("ward -1", x.lasts(-1, 0), NONE);
        check.due("cold 5", x.lasts(0, 5), BAD);
        check.due("cold -1", x.lasts(0, -1), BAD);
    }

    private static void triedIsRefused() {
        CoalTurns x = new CoalTurns();
        int[][] wrongs = {{0, 0, 0, 0}, {31, 0, 0, 0}, {1, -1, 0, 0}, {1, 10, 0, 0}, {1, 0, -1, 0}, {1, 0, 5, 0},
            {1, 0, 0, -1}, {1, 0, 0, 3}};
        for (int[] w : wrongs) check.due("BAD ahead of NONE", x.tried(7, w[0], w[1], w[2], w[3]), BAD);
        check.due("no ORDER", x.tried(0, 1, 0, 0, 0), NONE);
        check.due("-2", x.tried(-2, 1, 0, 0, 0), NONE);
        check.due("-1", x.tried(-1, 30, 9, 4, 0), 30);
    }

    private static void triedDays() {
        CoalTurns x = new CoalTurns();
        x.ship(0, 0, 10, 20, 0, 9);
        x.buyer(0, 0, 6, 40);
        x.buyer(0, 0, 9, 20);
        check.due("AT SEA", x.tried(-1, 2, 3, 0, 1), 0);
        check.due("THE PRICE", x.tried(-1, 2, 3, 0, 0), 30);
        check.due("ENTERED", x.tried(-1, 3, 3, 0, 1), 10);
        // 6 at 30, 4 at 20
        check.due("THE PRICE", x.tried(-1, 3, 3, 0, 0), 26);
        check.due("all of the days", x.tried(-1, 30, 9, 0, 1), 10);
    }

    private static void triedOrders() {
        CoalTurns x = new CoalTurns();
        for (int s = 0; s < 4; s++) Check.near(x, 0, 0, 10, 10 + 10 * s);
        x.buyer(0, 0, 100, 50);
        Check.order(x, "turn ask;sell 1", 0);
        Check.order(x, "turn ask;sell 2", 2);
        Check.order(x, "turn ask;sell 0", 5);
        check.due("as they are", x.tried(-1, 2, 1, 0, 1), 20);
        check.due("a later one comes in force", x.tried(-1, 3, 1, 0, 1), 40);
        check.due("another on all of them", x.tried(1, 1, 1, 0, 1), 20);
        check.due("one of later days", x.tried(2, 9, 1, 0, 1), 0);
        check.due("on all of them", x.tried(0, 3, 1, 0, 1), 30);
        check.due("THE PRICE at the end", x.tried(0, 3, 1, 0, 0), 40);
    }

    private static void triedGoesOnFromNow() {
        CoalTurns x = new CoalTurns();
        Check.near(x, 0, 0, 10, 20);
        x.ship(0, 0, 10, 30, 0, 2);
        x.buyer(0, 0, 0, 50);
        Check.order(x, "turn ask;sell 1 at <30,9 at >39,1", 0);
        Check.order(x, "turn entry;sell 1", 3);
        x.day(1, 0, 0);
        x.day(1, 0, 0);
        check.due("LATE", x.about(0, 7), 2);
        x.want(0, 5, 50);
        check.due("LATE ones are behind", x.tried(-1, 1, 0, 0, 0), 40);
        check.due("MANY by the trial's PRICE", x.tried(0, 2, 0, 0, 1), 5);
        x.want(0, 15, 50);
        // 10 at 40, by which both may sell: then 5 at 35
        check.due("THE PRICE of the second day", x.tried(0, 2, 0, 0, 0), 35);
        check.due("THE PRICE as it is", x.tried(0, 1, 0, 0, 0), 40);
        x.want(0, 10, 50);
        x.day(0, 0, 0);
        check.due("THE PRICE", x.count(4), 40);
        check.due("none sold: THE PRICE stays", x.tried(-1, 9, 0, 0, 0), 40);
        CoalTurns once = new CoalTurns();
        Check.near(once, 0, 0, 10, 20);
        Check.near(once, 0, 1, 10, 30);
        once.buyer(0, 1, 4, 40);
        Check.order(once, "turn ask;sell 1", 0);
        once.day(1, 0, 0);
        check.due("LATE behind the first DAY", once.tried(-1, 2, 0, 0, 1), 4);
        check.due("MISSED once before", once.tried(-1, 1, 0, 0, 1), 0);
        check.due("not LATE now", once.about(0, 7), 1);
    }

    private static void triedLacks() {
        CoalTurns x = new CoalTurns();
        x.burn(0, 3, 10);
        x.burn(1, 3, 10);
        x.store(1, 25);
        x.day(0, 3, 0);
        check.due("LACKED", x.ward(0, 1), 1);
        check.due("of those days alone", x.tried(-1, 2, 0, 3, 2), 3);
        check.due("with another COLD", x.tried(-1, 30, 0, 0, 2), 0);
        check.due("30 days", x.tried(-1, 30, 0, 3, 2), 59);
    }

    private static void triedChangesNothing() {
        CoalTurns x = new CoalTurns();
        Check.near(x, 0, 0, 10, 10);
        x.ship(0, 0, 10, 10, 0, 20);
        x.buyer(0, 0, 15, 50);
        x.burn(0, 1, 3);
        x.day(1, 0, 0);
        x.tried(-1, 30, 9, 1, 0);
        check.due("TODAY", x.count(3), 1);
        check.due("BARGAINS", x.count(5), 1);
        check.due("BARGAIN", x.bargain(0, 0), 0);
        check.due("clear", x.clear(1), 1);
        check.due("WAY", x.about(1, 5), 19);
        check.due("LEFT", x.about(1, 6), 10);
        check.due("STORE", x.ward(0, 0), 10);
        check.due("wanted", x.want(0, 15, 50), 5);
        check.due("MISSED", x.about(1, 9), 0);
        check.due("DUES", x.count(6), 20);
    }

    private static void countsTell() {
        CoalTurns x = new CoalTurns();
        Check.near(x, 0, 0, 10, 10);
        Check.near(x, 3, 0, 10, 10);
        x.buyer(0, 0, 8, 51);
        Check.order(x, "turn ask;sell 9", 0);
        x.day(1, 0, 0);
        Check.feed(x, "turn");
        int[] due = {2, 1, 1, 1, 30, 1, 46, 4};
        for (int what = 0; what < due.length; what++) check.due("count(" + what + ")", x.count(what), due[what]);
        check.due("count(8)", x.count(8), NONE);
        check.due("count(-1)", x.count(-1), NONE);
    }

    private static void factorsTell() {
        CoalTurns x = new CoalTurns();
        x.ship(0, 0, 10, 10, 5, 1);
        x.ship(2, 0, 10, 20, 5, 1);
        x.ship(0, 0, 10, 30, 0, 1);
        x.buyer(0, 0, 100, 40);
        x.day(1, 0, 0);
        check.due("of two SHIPS", x.factor(5), 250 + 300);
        check.due("of one", x.factor(0), 350);
        check.due("of none", x.factor(1), 0);
        check.due("factor 6", x.factor(6), NONE);
        check.due("factor -1", x.factor(-1), NONE);
    }
}
