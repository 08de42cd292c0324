/** Promises 15 to 19: day, about, bargain, clear, held. */
public final class DaysTest {
    private static final int NONE = CoalTurns.NONE, BAD = CoalTurns.BAD, FULL = CoalTurns.FULL;
    private static final Check check = new Check();

    public static void main(String[] args) {
        daysAreRefused();
        windBringsShips();
        buyersByBid();
        priceIsTheMean();
        missedAndLate();
        frostHoldsNoMarket();
        wardsBurn();
        bargainsOfTheLatestDay();
        clearNeedsGangs();
        clearTakesSevenShips();
        heldShipsFirst();
        heldWithManyAndGas();
        heldAsTheyWereThen();
        allShipsAndBuyers();
        check.end();
    }

    private static void daysAreRefused() {
        CoalTurns x = new CoalTurns();
        int[][] wrongs = {{-1, 0, 0}, {10, 0, 0}, {0, -1, 0}, {0, 5, 0}, {0, 0, -1}, {0, 0, 2}};
        for (int[] w : wrongs) check.due("day", x.day(w[0], w[1], w[2]), BAD);
        check.due("TODAY", x.count(3), 0);
        for (int d = 0; d < 999; d++) x.day(9, 4, d % 2);
        check.due("TODAY", x.count(3), 999);
        check.due("FULL", x.day(0, 0, 0), FULL);
        check.due("BAD ahead of FULL", x.day(10, 0, 0), BAD);
        check.due("TODAY", x.count(3), 999);
    }

    private static void windBringsShips() {
        CoalTurns x = new CoalTurns();
        for (int kind = 0; kind < 4; kind++) x.ship(kind, 0, 10, 10, 0, 10);
        x.day(4, 0, 0);
        int[] due = {6, 2, 6, 6};
        for (int s = 0; s < 4; s++) check.due("WAY of " + s, x.about(s, 5), due[s]);
        x.day(0, 0, 0);
        check.due("without wind", x.about(1, 5), 2);
        x.day(1, 0, 1);
        check.due("LIGHT is ENTERED", x.about(1, 7), 1);
        check.due("on day", x.about(1, 8), 2);
        check.due("WAY", x.about(1, 5), 0);
        check.due("PLAIN is AT SEA", x.about(0, 7), 0);
        check.due("no day", x.about(0, 8), NONE);
        x.day(9, 0, 1);
        for (int s = 0; s < 4; s++) {
            check.due("state of " + s, x.about(s, 7), 1);
            check.due("WAY of " + s, x.about(s, 5), 0);
            check.due("day of " + s, x.about(s, 8), s == 1 ? 2 : 3);
            check.due("DUES of " + s, x.about(s, 12), s == 3 ? 30 : 0);
        }
    }

    private static void bargainIs(String name, CoalTurns x, int i, int... facts) {
        for (int what = 0; what < 4; what++) check.due(name + ": bargain(" + i + ", " + what + ")", x.bargain(i, what), facts[what]);
    }

    private static void buyersByBid() {
        CoalTurns x = new CoalTurns();
        Check.near(x, 0, 1, 100, 20);
        x.buyer(0, 1, 10, 20);
        x.buyer(1, 1, 20, 33);
        x.buyer(2, 1, 30, 40);
        x.buyer(3, 1, 25, 33);
        x.buyer(4, 1, 50, 19);
        x.buyer(5, 2, 50, 99);
        x.buyer(4, 1, 0, 99);
        check.due("day", x.day(1, 0, 0), 85);
        bargainIs("greatest BID", x, 0, 0, 2, 30, 30);
        bargainIs("of like ones", x, 1, 0, 1, 20, 26);
        bargainIs("the next", x, 2, 0, 3, 25, 26);
        bargainIs("BID as ASK", x, 3, 0, 0, 10, 20);
        check.due("no more", x.count(5), 4);
        check.due("LEFT", x.about(0, 6), 15);
        check.due("sold", x.about(0, 10), 85);
        check.due("took in", x.about(0, 11), 900 + 520 + 650 + 200);
        check.due("DUES", x.about(0, 12), 170);
        check.due("ENTERED", x.about(0, 7), 1);
        int[] came = {10, 20, 30, 25, 0, 0};
        for (int w = 0; w < 6; w++) {
            check.due("STORE", x.ward(w, 0), came[w]);
            check.due("came", x.ward(w, 3), came[w]);
        }
    }

    private static void priceIsTheMean() {
        CoalTurns x = new CoalTurns();
        Check.near(x, 0, 0, 10, 20);
        Check.near(x, 2, 1, 5, 99);
        x.buyer(0, 0, 10, 21);
        x.buyer(0, 1, 3, 120);
        check.due("sold", x.day(1, 0, 0), 13);
        // 20 for 10 measures and 109 for 3: 527 by 13
        check.due("THE PRICE", x.count(4), 40);
        check.due("none sold", x.day(0, 0, 0), 0);
        check.due("THE PRICE stays", x.count(4), 40);
        check.due("GAS pays 1", x.about(1, 12), 3);
        check.due("DUES", x.count(6), 23);
    }

    private static void missedAndLate() {
        CoalTurns x = new CoalTurns();
        Check.near(x, 0, 0, 10, 20);
        Check.near(x, 1, 0, 10, 30);
        Check.near(x, 2, 0, 10, 30);
        Check.near(x, 0, 0, 10, 40);
        Check.near(x, 3, 0, 10, 40);
        x.buyer(0, 0, 0, 50);
        Check.order(x, "turn ask;sell 2", 0);
        x.day(1, 0, 0);
        int[] missed = {1, 1, 1, 0, 0};
        for (int s = 0; s < 5; s++) check.due("MISSED of " + s, x.about(s, 9), missed[s]);
        check.due("not LATE yet", x.about(0, 7), 1);
        x.want(0, 4, 50);
        x.day(0, 0, 0);
        check.due("one that sold", x.about(0, 9), 1);
        check.due("twice", x.about(1, 9), 2);
        check.due("LATE", x.about(1, 7), 2);
        check.due("GAS is never LATE", x.about(2, 7), 1);
        check.due("but MISSED", x.about(2, 9), 2);
        x.day(0, 0, 0);
        check.due("twice in all", x.about(0, 7), 2);
        check.due("the other is IN TURN now", x.about(3, 9), 1);
        check.due("LATE is behind", x.about(1, 9), 2);
        x.day(0, 0, 0);
        check.due("all are LATE", x.about(3, 7), 2);
        x.day(0, 0, 0);
        check.due("LATE ones MISS, too", x.about(0, 9), 4);
        x.want(0, 11, 50);
        check.due("LATE ones sell", x.day(0, 0, 0), 11);
        check.due("SOLD", x.about(0, 7), 3);
        check.due("LATE with some LEFT", x.about(1, 7), 2);
        check.due("LEFT", x.about(1, 6), 5);
    }

    private static void frostHoldsNoMarket() {
        CoalTurns x = new CoalTurns();
        Check.near(x, 0, 0, 10, 20);
        x.buyer(0, 0, 4, 30);
        x.burn(0, 2, 3);
        check.due("FROST", x.day(9, 2, 1), 0);
        check.due("ENTERED all the same", x.about(0, 7), 1);
        check.due("not MISSED", x.about(0, 9), 0);
        check.due("LACKS", x.ward(0, 1), 1);
        check.due("no MARKET yet", x.held(0), NONE);
        check.due("TODAY", x.count(3), 1);
        check.due("no FROST", x.day(0, 2, 0), 4);
        check.due("BARGAINS", x.count(5), 1);
        check.due("FROST", x.day(0, 2, 1), 0);
        check.due("no BARGAINS", x.count(5), 0);
        check.due("no BARGAIN", x.bargain(0, 0), NONE);
        check.due("nothing to clear", x.clear(1), 0);
    }

    private static void wardsBurn() {
        CoalTurns x = new CoalTurns();
        x.burn(0, 1, 10);
        x.burn(0, 2, 15);
        x.store(0, 30);
        x.day(0, 1, 0);
        check.due("STORE", x.ward(0, 0), 20);
        x.day(0, 2, 0);
        check.due("STORE", x.ward(0, 0), 5);
        x.day(0, 0, 0);
        check.due("no burning", x.ward(0, 0), 5);
        check.due("did not LACK", x.ward(0, 1), 0);
        x.day(0, 1, 0);
        check.due("STORE", x.ward(0, 0), 0);
        check.due("LACKED", x.ward(0, 1), 1);
        check.due("burnt", x.ward(0, 2), 30);
        x.store(0, 10);
        x.day(0, 1, 0);
        check.due("just enough", x.ward(0, 1), 1);
        check.due("of another WARD", x.ward(1, 1), 0);
    }

    private static void bargainsOfTheLatestDay() {
        CoalTurns x = new CoalTurns();
        Check.near(x, 0, 0, 10, 20);
        x.buyer(0, 0, 10, 30);
        x.day(1, 0, 0);
        check.due("about what 13", x.about(0, 13), NONE);
        check.due("about what -1", x.about(0, -1), NONE);
        check.due("about ship 1", x.about(1, 0), NONE);
        check.due("about ship -1", x.about(-1, 0), NONE);
        check.due("bargain what 4", x.bargain(0, 4), NONE);
        check.due("bargain what -1", x.bargain(0, -1), NONE);
        check.due("bargain -1", x.bargain(-1, 0), NONE);
        check.due("bargain 1", x.bargain(1, 0), NONE);
        bargainIs("the one", x, 0, 0, 0, 10, 25);
        x.day(1, 0, 0);
        check.due("of the latest DAY", x.bargain(0, 0), NONE);
    }

    private static CoalTurns soldBy(int... amounts) {
        CoalTurns x = new CoalTurns();
        for (int amount : amounts) Check.near(x, 0, 0, amount, 10);
        x.buyer(0, 0, 2000, 20);
        x.day(1, 0, 0);
        return x;
    }

    private static void clearNeedsGangs() {
        CoalTurns x = soldBy(20, 20, 20);
        check.due("gangs 0", x.clear(0), BAD);
        check.due("gangs 4", x.clear(4), BAD);
        check.due("1 gang", x.clear(1), 6);
        check.due("2 gangs", x.clear(2), 4);
        check.due("3 gangs", x.clear(3), 2);
        CoalTurns up = soldBy(1, 10, 11);
        check.due("hours up", up.clear(1), 4);
        check.due("hours up", up.clear(3), 2);
        // the longest first, each to the gang that is free first, would need 7: 3 3 and 2 2 2 need 6
        CoalTurns best = soldBy(30, 30, 20, 20, 20);
        check.due("the least", best.clear(2), 6);
        check.due("nothing", new CoalTurns().clear(3), 0);
    }

    private static void clearTakesSevenShips() {
        CoalTurns x = soldBy(10, 10, 10, 10, 10, 10, 10, 400, 400);
        check.due("the first 7", x.clear(1), 7);
        check.due("the first 7", x.clear(2), 4);
        check.due("the first 7", x.clear(3), 3);
        CoalTurns parts = new CoalTurns();
        Check.near(parts, 0, 0, 25, 10);
        parts.buyer(0, 0, 11, 30);
        parts.buyer(0, 0, 14, 20);
        parts.day(1, 0, 0);
        check.due("a SHIP's BARGAINS together", parts.clear(1), 3);
    }

    private static void heldShipsFirst() {
        CoalTurns x = new CoalTurns();
        Check.near(x, 0, 0, 10, 10);
        x.ship(0, 0, 10, 30, 0, 60);
        x.ship(3, 0, 10, 30, 0, 60);
        x.ship(0, 1, 10, 30, 0, 60);
        x.buyer(0, 0, 15, 50);
        x.buyer(0, 0, 5, 20);
        x.day(1, 0, 0);
        check.due("THE PRICE", x.count(4), 30);
        // 10 at 40, then 5 at 30 and 5 at 15
        check.due("AT SEA, first", x.held(1), 31);
        check.due("first as it was", x.held(0), 30);
        check.due("BONDED", x.held(2), NONE);
        check.due("one that sells nothing", x.held(3), 30);
        check.due("no such SHIP", x.held(4), NONE);
        check.due("no such SHIP", x.held(-1), NONE);
        check.due("nothing is changed", x.about(1, 6), 10);
        check.due("nothing is changed", x.count(4), 30);
        check.due("nothing is changed", x.count(5), 1);
    }

    private static void heldWithManyAndGas() {
        CoalTurns x = new CoalTurns();
        Check.near(x, 0, 0, 10, 10);
        Check.near(x, 0, 0, 10, 20);
        Check.near(x, 2, 0, 10, 30);
        x.buyer(0, 0, 10, 90);
        x.buyer(0, 0, 30, 40);
        Check.order(x, "turn ask;sell 1", 0);
        x.day(1, 0, 0);
        // 10 at 50, GAS 10 at 35
        check.due("THE PRICE", x.count(4), 42);
        // 10 at 55, then those that were IN TURN: 10 at 25, GAS 10 at 35
        check.due("one behind MANY", x.held(1), 38);
        // 10 at 60, then 10 at 25: it stands there once
        check.due("GAS first", x.held(2), 42);
        x.day(1, 0, 0);
        check.due("SOLD then", x.held(0), NONE);
    }

    /** As many BARGAINS as a day can have: each leaves a SHIP or a BUYER with nothing, the last one both. */
    private static void allShipsAndBuyers() {
        CoalTurns x = new CoalTurns();
        for (int s = 0; s < 20; s++) Check.near(x, s < 19 ? 0 : 2, 0, 100, 10);
        for (int b = 0; b < 10; b++) x.buyer(0, 0, b < 9 ? 199 : 209, 40 - b);
        check.due("day", x.day(1, 0, 0), 2000);
        check.due("BARGAINS", x.count(5), 29);
        bargainIs("the first", x, 0, 0, 0, 100, 25);
        bargainIs("the last", x, 28, 19, 9, 100, 20);
        check.due("no more", x.bargain(29, 0), NONE);
        for (int s = 0; s < 20; s++) check.due("SOLD", x.about(s, 7), 3);
        check.due("clear", x.clear(1), 70);
        for (int s = 0; s < 20; s++) check.due("held", x.held(s), x.count(4));
        CoalTurns one = new CoalTurns();
        Check.near(one, 0, 0, 1, 10);
        one.buyer(0, 0, 1, 11);
        check.due("one measure", one.day(1, 0, 0), 1);
        check.due("THE PRICE of one", one.count(4), 10);
        check.due("clear one", one.clear(3), 1);
    }

    private static void heldAsTheyWereThen() {
        CoalTurns x = new CoalTurns();
        Check.near(x, 0, 0, 10, 10);
        x.ship(0, 0, 10, 30, 0, 60);
        x.buyer(0, 0, 15, 50);
        x.day(1, 0, 0);
        int then = x.held(1);
        // 10 at 40, 5 at 30
        check.due("held", then, 36);
        x.ask(1, 1);
        x.ask(0, 99);
        x.want(0, 2000, 120);
        x.wreck(1, 10);
        Check.order(x, "turn ask;sell 0", 0);
        Check.near(x, 0, 0, 10, 30);
        x.buyer(0, 0, 1000, 120);
        x.day(9, 0, 1);
        check.due("as they were then", x.held(1), 36);
        check.due("one that came later", x.held(2), NONE);
        x.tried(-1, 9, 9, 0, 0);
        check.due("not of days that were tried", x.held(1), 36);
        x.day(9, 0, 0);
        check.due("a WRECK", x.held(1), NONE);
        check.due("nothing was sold", x.held(0), NONE);
        check.due("IN TURN alone", x.held(2), 75);
        CoalTurns late = new CoalTurns();
        Check.near(late, 0, 0, 10, 10);
        late.day(1, 0, 0);
        check.due("nothing sold: THE PRICE", late.held(0), 30);
        late.day(1, 0, 0);
        check.due("ENTERED then", late.held(0), 30);
        late.day(1, 0, 0);
        check.due("LATE then", late.held(0), NONE);
    }
}
