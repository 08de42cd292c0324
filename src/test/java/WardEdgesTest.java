/**
 * Promises 20 to 26 and the rules that they rest on, sentence by sentence: weights at their ends and around SHORT, the
 * days that a STORE lasts around 1000, the numbers of a trial, what is counted.
 */
public final class WardEdgesTest {
    private static final int NONE = CoalTurns.NONE, BAD = CoalTurns.BAD;
    private static final int PLAIN = 0, GAS = 2, BONDED = 3;
    private static final Check check = new Check();

    public static void main(String[] args) {
        leastAndMostOfAMeasure();
        refusedMeasuresStayAway();
        weighedOfWhichShip();
        drawnAreNoneToLoad();
        weightOfThoseDrawn();
        weightOfNoneAndOfAll();
        shortBelowTwentyFour();
        theWholeLoadIsWeighed();
        wardsAndWhats();
        whatAWardTells();
        lastsOfWhichWard();
        lastsAroundThousand();
        lastsEver();
        lastsByCold();
        everyNumberOfATrial();
        triedOrders();
        triedAsTheyAre();
        triedDaysAreCounted();
        triedWindAndFrost();
        triedFromWhatIsNow();
        triedPrice();
        triedLacks();
        triedWithNothing();
        countsAndNoOther();
        countsThatGrow();
        factorsAndNoOther();
        whatFactorsTookIn();
        check.end();
    }

    // ---- promise 20: measure

    private static void leastAndMostOfAMeasure() {
        int[][] goods = {{1, 1}, {1, 2}, {1, 99}, {50, 50}, {98, 99}, {99, 99}};
        for (int[] g : goods) {
            CoalTurns x = new CoalTurns();
            Check.near(x, PLAIN, 0, 10, 10);
            check.due("P20 " + g[0] + " .. " + g[1], x.measure(g[0], g[1]), 0);
            check.due("P20 LEAST", x.weighed(0, 0, 0, 0), 10 * g[0]);
            check.due("P20 MOST", x.weighed(0, 0, 0, 1), 10 * g[1]);
        }
        int[][] bads = {{0, 0}, {0, 1}, {0, 99}, {2, 1}, {51, 50}, {99, 98}, {1, 100}, {99, 100}, {100, 100}, {-1, 5}, {5, -1},
            {Integer.MIN_VALUE, 5}, {5, Integer.MAX_VALUE}, {Integer.MAX_VALUE, Integer.MIN_VALUE}};
        for (int[] b : bads) check.due("P20 " + b[0] + " .. " + b[1], new CoalTurns().measure(b[0], b[1]), BAD);
    }

    private static void refusedMeasuresStayAway() {
        CoalTurns x = new CoalTurns();
        Check.near(x, PLAIN, 0, 1, 10);
        x.measure(0, 99);
        x.measure(1, 100);
        x.measure(30, 29);
        check.due("R4 20 at first", x.weighed(0, 0, 0, 0), 20);
        check.due("R4 28 at first", x.weighed(0, 0, 0, 1), 28);
        x.measure(3, 4);
        x.measure(1, 100);
        check.due("P20 as it was", x.weighed(0, 0, 0, 0), 3);
        check.due("P20 as it was", x.weighed(0, 0, 0, 1), 4);
    }

    // ---- promise 21: weighed

    private static void weighedOfWhichShip() {
        CoalTurns x = new CoalTurns();
        check.due("P21 without SHIPS", x.weighed(0, 0, 0, 0), NONE);
        for (int s = 0; s < 20; s++) Check.near(x, PLAIN, 0, 10, 10);
        check.range("P21 SHIP", 0, 19, NONE, s -> x.weighed(s, 0, 0, 0));
        check.range("P21 what", 0, 2, NONE, what -> x.weighed(0, 0, 0, what));
        check.due("P21 NONE (SHIP) is told ahead of BAD", x.weighed(20, 11, 0, 0), NONE);
        check.due("P21 NONE (what) is told ahead of BAD", x.weighed(0, 11, 0, 3), NONE);
    }

    private static void drawnAreNoneToLoad() {
        int[] loads = {1, 10, 400};
        for (int load : loads) {
            CoalTurns x = new CoalTurns();
            Check.near(x, PLAIN, 0, load, 10);
            check.range("P21 k of " + load, 0, load, BAD, k -> x.weighed(0, k, k * 24, 0));
            x.measure(24, 24);
            check.due("P21 k -1 with the weight that it would have", x.weighed(0, -1, -24, 0), BAD);
            check.due("P21 k behind the last with its weight", x.weighed(0, load + 1, 24 * load + 24, 0), BAD);
        }
    }

    private static void weightOfThoseDrawn() {
        CoalTurns x = new CoalTurns();
        Check.near(x, PLAIN, 0, 10, 10);
        check.range("P21 weight of 1", 20, 28, BAD, weight -> x.weighed(0, 1, weight, 0));
        check.range("P21 weight of 4", 80, 112, BAD, weight -> x.weighed(0, 4, weight, 1));
        check.range("P21 weight of all", 200, 280, BAD, weight -> x.weighed(0, 10, weight, 2));
        check.due("P21 at least", x.weighed(0, 4, 80, 0), 80 + 6 * 20);
        check.due("P21 at most", x.weighed(0, 4, 80, 1), 80 + 6 * 28);
        check.due("P21 at least", x.weighed(0, 4, 112, 0), 112 + 6 * 20);
        check.due("P21 at most", x.weighed(0, 4, 112, 1), 112 + 6 * 28);
        x.measure(1, 99);
        check.range("P21 weight of 4, other measures", 4, 396, BAD, weight -> x.weighed(0, 4, weight, 0));
        x.measure(7, 7);
        check.range("P21 one weight alone", 28, 28, BAD, weight -> x.weighed(0, 4, weight, 0));
    }

    private static void weightOfNoneAndOfAll() {
        CoalTurns x = new CoalTurns();
        Check.near(x, PLAIN, 0, 400, 10);
        check.range("P21 weight of none", 0, 0, BAD, weight -> x.weighed(0, 0, weight, 0));
        check.due("P21 none drawn, at least", x.weighed(0, 0, 0, 0), 8000);
        check.due("P21 none drawn, at most", x.weighed(0, 0, 0, 1), 11200);
        check.due("P21 all drawn, at least", x.weighed(0, 400, 9001, 0), 9001);
        check.due("P21 all drawn, at most", x.weighed(0, 400, 9001, 1), 9001);
        x.measure(99, 99);
        check.due("P21 the most of all", x.weighed(0, 400, 39600, 1), 39600);
    }

    private static void shortBelowTwentyFour() {
        CoalTurns x = new CoalTurns();
        Check.near(x, PLAIN, 0, 10, 10);
        check.due("R4 most is 239 of 10", x.weighed(0, 10, 239, 2), 1);
        check.due("R4 most is 240 of 10", x.weighed(0, 10, 240, 2), 0);
        check.due("R4 most is 241 of 10", x.weighed(0, 10, 241, 2), 0);
        check.due("R4 most is 5 at 20 and 5 at 28", x.weighed(0, 5, 100, 2), 0);
        check.due("R4 most is 6 at 20 and 4 at 28", x.weighed(0, 6, 120, 2), 1);
        check.due("R4 none drawn", x.weighed(0, 0, 0, 2), 0);
        x.measure(23, 23);
        check.due("R4 even the most is 23 for each", x.weighed(0, 0, 0, 2), 1);
        x.measure(1, 24);
        check.due("R4 the most is 24 for each", x.weighed(0, 0, 0, 2), 0);
        check.due("R4 one of them is lighter", x.weighed(0, 1, 23, 2), 1);
    }

    private static void theWholeLoadIsWeighed() {
        CoalTurns x = new CoalTurns();
        Check.near(x, PLAIN, 0, 10, 10);
        Check.near(x, PLAIN, 1, 10, 10);
        x.buyer(0, 0, 6, 10);
        x.day(1, 0, 0);
        check.due("R4 of its LOAD, not of what is LEFT", x.weighed(0, 0, 0, 0), 200);
        check.due("R4 k up to its LOAD", x.weighed(0, 10, 200, 1), 200);
        x.wreck(1, 10);
        check.due("R4 of a WRECK", x.weighed(1, 0, 0, 1), 280);
        check.due("R4 of a WRECK", x.weighed(1, 10, 240, 2), 0);
    }

    // ---- promise 22: ward

    private static void wardsAndWhats() {
        CoalTurns x = new CoalTurns();
        for (int what = 0; what < 4; what++) {
            int of = what;
            check.range("P22 WARD, what " + what, 0, 5, NONE, w -> x.ward(w, of));
        }
        check.range("P22 what", 0, 3, NONE, what -> x.ward(5, what));
        check.due("P22 neither", x.ward(6, 4), NONE);
    }

    private static void whatAWardTells() {
        CoalTurns x = new CoalTurns();
        Check.near(x, PLAIN, 0, 10, 10);
        x.buyer(5, 0, 10, 10);
        x.burn(5, 4, 6);
        x.store(5, 1);
        x.day(1, 4, 0);
        int[] first = {5, 0, 6, 10};
        for (int what = 0; what < 4; what++) check.due("P22 what " + what, x.ward(5, what), first[what]);
        x.day(1, 4, 0);
        int[] second = {0, 1, 11, 10};
        for (int what = 0; what < 4; what++) check.due("P22 it LACKED: what " + what, x.ward(5, what), second[what]);
        x.day(1, 4, 1);
        check.due("P22 it LACKED on a DAY with FROST", x.ward(5, 1), 2);
        check.due("P22 nothing was burnt", x.ward(5, 2), 11);
    }

    // ---- promise 23: lasts

    private static void lastsOfWhichWard() {
        CoalTurns x = new CoalTurns();
        check.range("P23 WARD", 0, 5, NONE, w -> x.lasts(w, 4));
        check.range("P23 COLD", 0, 4, BAD, cold -> x.lasts(5, cold));
        check.due("P23 NONE is told ahead of BAD", x.lasts(6, 5), NONE);
    }

    private static int lastsWith(int store, int burn) {
        CoalTurns x = new CoalTurns();
        for (int rest = store; rest > 0; rest -= 9999) x.store(0, Math.min(rest, 9999));
        x.burn(0, 0, burn);
        return x.lasts(0, 0);
    }

    private static void lastsAroundThousand() {
        int[][] rows = {{0, 1, 0}, {1, 1, 1}, {1, 2, 0}, {3, 2, 1}, {4, 2, 2}, {499, 500, 0}, {500, 500, 1}, {998, 1, 998},
            {999, 1, 999}, {1000, 1, 1000}, {1001, 1, 1000}, {4999, 5, 999}, {5000, 5, 1000}, {5004, 5, 1000}, {5005, 5, 1000},
            {499999, 500, 999}, {500000, 500, 1000}, {500500, 500, 1000}, {900000, 1, 1000}};
        for (int[] row : rows) check.due("P23 " + row[0] + " at " + row[1] + " a day", lastsWith(row[0], row[1]), row[2]);
    }

    private static void lastsEver() {
        check.due("P23 nothing burns, nothing is there", lastsWith(0, 0), 1000);
        check.due("P23 nothing burns", lastsWith(1, 0), 1000);
        check.due("P23 nothing burns", lastsWith(9999, 0), 1000);
    }

    private static void lastsByCold() {
        CoalTurns x = new CoalTurns();
        x.store(2, 60);
        for (int cold = 1; cold < 5; cold++) x.burn(2, cold, cold);
        int[] due = {1000, 60, 30, 20, 15};
        for (int cold = 0; cold < 5; cold++) check.due("P23 COLD " + cold, x.lasts(2, cold), due[cold]);
        check.due("P23 nothing is burnt by asking", x.ward(2, 0), 60);
        for (int d = 0; d < 15; d++) x.day(0, 4, 0);
        check.due("P23 so many days it did not LACK", x.ward(2, 1), 0);
        check.due("P23 it lasts no more", x.lasts(2, 4), 0);
        x.day(0, 4, 0);
        check.due("P23 then it LACKS", x.ward(2, 1), 1);
    }

    // ---- promise 24: tried

    private static void everyNumberOfATrial() {
        CoalTurns x = new CoalTurns();
        Check.order(x, "turn ask;sell 1", 0);
        for (int order = -1; order <= 0; order++) {
            int o = order;
            check.range("P24 n", 1, 30, BAD, n -> x.tried(o, n, 0, 0, 0));
            check.range("P24 wind", 0, 9, BAD, wind -> x.tried(o, 1, wind, 0, 0));
            check.range("P24 COLD", 0, 4, BAD, cold -> x.tried(o, 1, 0, cold, 0));
            check.range("P24 what", 0, 2, BAD, what -> x.tried(o, 1, 0, 0, what));
        }
        check.range("P24 most others, n", 1, 30, BAD, n -> x.tried(0, n, 9, 4, 2));
    }

    private static void triedOrders() {
        CoalTurns x = new CoalTurns();
        check.due("P24 -1 without ORDERS", x.tried(-1, 1, 0, 0, 0), 30);
        check.due("P24 0 without ORDERS", x.tried(0, 1, 0, 0, 0), NONE);
        for (int i = 0; i < 8; i++) {
            Check.order(x, "turn ask;sell 1", 999);
            check.due("P24 the last", x.tried(i, 1, 0, 0, 0), 30);
            check.due("P24 behind the last", x.tried(i + 1, 1, 0, 0, 0), NONE);
        }
        check.due("P24 -2", x.tried(-2, 1, 0, 0, 0), NONE);
        check.due("P24 the least", x.tried(Integer.MIN_VALUE, 1, 0, 0, 0), NONE);
        check.due("P24 the greatest", x.tried(Integer.MAX_VALUE, 1, 0, 0, 0), NONE);
        check.due("P24 BAD n is told ahead of NONE", x.tried(8, 31, 0, 0, 0), BAD);
        check.due("P24 BAD wind is told ahead of NONE", x.tried(8, 1, 10, 0, 0), BAD);
        check.due("P24 BAD COLD is told ahead of NONE", x.tried(8, 1, 0, 5, 0), BAD);
        check.due("P24 BAD what is told ahead of NONE", x.tried(8, 1, 0, 0, 3), BAD);
    }

    /** Four SHIPS of 10 with one BUYER of much: by MANY it shows which ORDER was in force. */
    private static CoalTurns fourShips() {
        CoalTurns x = new CoalTurns();
        for (int s = 0; s < 4; s++) Check.near(x, PLAIN, 0, 10, 10 + s);
        x.buyer(0, 0, 2000, 50);
        return x;
    }

    private static void triedAsTheyAre() {
        CoalTurns x = fourShips();
        check.due("R4 without one: all of them", x.tried(-1, 1, 1, 0, 1), 40);
        Check.order(x, "turn ask;sell 1", 1);
        Check.order(x, "turn ask;sell 2", 3);
        check.due("R4 TODAY none is in force", x.tried(-1, 1, 1, 0, 1), 40);
        check.due("R4 another in force on all days", x.tried(0, 1, 1, 0, 1), 10);
        check.due("R4 whatever its day", x.tried(1, 1, 1, 0, 1), 20);
        x.day(0, 0, 0);
        check.due("R4 day 1", x.tried(-1, 1, 1, 0, 1), 10);
        check.due("R4 days 1 and 2", x.tried(-1, 2, 1, 0, 1), 20);
        check.due("R4 days 1 to 3: then the later one", x.tried(-1, 3, 1, 0, 1), 40);
        check.due("R4 the other on all of them", x.tried(0, 3, 1, 0, 1), 30);
        check.due("R4 the other on all of them", x.tried(1, 2, 1, 0, 1), 40);
        check.due("R4 one that is in force is none other", x.tried(0, 1, 1, 0, 1), 10);
    }

    private static void triedDaysAreCounted() {
        CoalTurns x = fourShips();
        Check.order(x, "turn ask;sell 1", 0);
        for (int n = 1; n <= 5; n++) {
            check.due("R4 " + n + " DAYS more", x.tried(-1, n, 1, 0, 1), Math.min(10 * n, 40));
            check.due("R4 and all is as before", x.count(3), 0);
        }
        x.day(1, 0, 0);
        check.due("P24 measures of the trial alone", x.tried(-1, 1, 1, 0, 1), 10);
        check.due("P24 and of its last DAYS", x.tried(-1, 30, 1, 0, 1), 30);
    }

    private static void triedWindAndFrost() {
        CoalTurns x = new CoalTurns();
        x.ship(PLAIN, 0, 10, 10, 0, 30);
        x.buyer(0, 0, 2000, 50);
        check.due("R4 no wind", x.tried(-1, 30, 0, 0, 1), 0);
        check.due("R4 29 days of wind 1", x.tried(-1, 29, 1, 0, 1), 0);
        check.due("R4 30 days of wind 1", x.tried(-1, 30, 1, 0, 1), 10);
        check.due("R4 3 days of wind 9", x.tried(-1, 3, 9, 0, 1), 0);
        check.due("R4 4 days of wind 9", x.tried(-1, 4, 9, 0, 1), 10);
        check.due("R4 the WAY is as before", x.about(0, 5), 30);
        for (int d = 0; d < 4; d++) x.day(9, 0, 1);
        check.due("R4 no FROST, though there was", x.tried(-1, 1, 0, 0, 1), 10);
    }

    private static void triedFromWhatIsNow() {
        CoalTurns x = new CoalTurns();
        x.ship(PLAIN, 0, 10, 20, 0, 2);
        Check.near(x, PLAIN, 0, 10, 40);
        x.buyer(0, 0, 0, 60);
        Check.order(x, "turn entry;sell 1", 0);
        x.day(1, 0, 1);
        x.day(1, 0, 1);
        x.want(0, 10, 60);
        check.due("R4 the days on which they ENTERED", x.tried(-1, 1, 0, 0, 0), 50);
        x.want(0, 0, 60);
        x.day(0, 0, 0);
        x.want(0, 10, 60);
        check.due("R4 one that MISSED once sells", x.tried(-1, 1, 0, 0, 0), 50);
        x.ask(1, 61);
        check.due("R4 it MISSES a second time", x.tried(-1, 1, 0, 0, 1), 0);
        check.due("R4 and is LATE on the next DAY of the trial", x.tried(-1, 2, 0, 0, 0), 40);
        check.due("R4 here it is not", x.about(1, 7), 1);
        x.day(0, 0, 0);
        check.due("R4 now it is", x.about(1, 7), 2);
        check.due("R4 one that is LATE is LATE in the trial", x.tried(-1, 1, 0, 0, 0), 40);
        CoalTurns once = new CoalTurns();
        Check.near(once, PLAIN, 0, 10, 20);
        Check.near(once, PLAIN, 1, 10, 30);
        once.buyer(0, 1, 4, 40);
        Check.order(once, "turn ask;sell 1", 0);
        once.day(1, 0, 0);
        check.due("R4 what it MISSED before the trial counts", once.tried(-1, 2, 0, 0, 1), 4);
    }

    private static void triedPrice() {
        CoalTurns x = fourShips();
        check.due("P24 THE PRICE when nothing is sold", x.tried(-1, 30, 0, 0, 0), 30);
        Check.order(x, "turn ask;sell 1 at <31,2", 0);
        // the first sells at 30, so the second at 30 (61 cut), the next two at 31
        check.due("P24 behind 1 DAY", x.tried(-1, 1, 1, 0, 0), 30);
        check.due("P24 behind 2 DAYS", x.tried(-1, 2, 1, 0, 0), 30);
        check.due("P24 behind 3 DAYS", x.tried(-1, 3, 1, 0, 0), 31);
        check.due("P24 MANY by the trial's PRICE", x.tried(-1, 4, 1, 0, 1), 40);
        check.due("P24 THE PRICE at the end stays", x.tried(-1, 30, 1, 0, 0), 31);
        check.due("P24 THE PRICE is as before", x.count(4), 30);
    }

    private static void triedLacks() {
        CoalTurns x = new CoalTurns();
        check.due("P24 none burns", x.tried(-1, 30, 0, 4, 2), 0);
        for (int w = 0; w < 6; w++) x.burn(w, 1, 10);
        check.due("P24 of 6 WARDS, together", x.tried(-1, 1, 0, 1, 2), 6);
        check.due("P24 the most", x.tried(-1, 30, 0, 1, 2), 180);
        check.due("P24 by another COLD", x.tried(-1, 30, 0, 2, 2), 0);
        x.store(0, 30);
        check.due("P24 enough for 3 days", x.tried(-1, 3, 0, 1, 2), 15);
        check.due("P24 not for 4", x.tried(-1, 4, 0, 1, 2), 21);
        x.day(0, 1, 0);
        check.due("P24 days of the trial alone", x.tried(-1, 2, 0, 1, 2), 10);
        check.due("P24 those that were stay", x.ward(1, 1), 1);
    }

    private static void triedWithNothing() {
        CoalTurns x = new CoalTurns();
        int[] due = {30, 0, 0};
        for (int what = 0; what < 3; what++) check.due("P24 nothing is there", x.tried(-1, 30, 9, 4, what), due[what]);
        check.due("P24 no MARKET was", x.held(0), NONE);
        check.due("P24 no DAY was", x.count(3), 0);
    }

    // ---- promise 25: count

    private static void countsAndNoOther() {
        CoalTurns x = new CoalTurns();
        check.range("P25 what", 0, 7, NONE, x::count);
    }

    private static void countsThatGrow() {
        CoalTurns x = new CoalTurns();
        Check.near(x, BONDED, 0, 10, 10);
        Check.near(x, GAS, 0, 10, 41);
        x.ship(PLAIN, 0, 10, 10, 0, 60);
        x.buyer(0, 0, 4, 41);
        x.buyer(0, 0, 4, 42);
        Check.order(x, "turn ask;sell 1", 0);
        x.day(1, 0, 0);
        x.wreck(2, 3);
        x.goOn(0);
        x.feed(0, 7);
        int[] due = {3, 2, 1, 1, 41, 2, 30 - 20 + 8 + 6, 7};
        for (int what = 0; what < 8; what++) check.due("P25 count " + what, x.count(what), due[what]);
    }

    // ---- promise 26: factor

    private static void factorsAndNoOther() {
        CoalTurns x = new CoalTurns();
        check.range("P26 FACTOR", 0, 5, NONE, x::factor);
    }

    private static void whatFactorsTookIn() {
        CoalTurns x = new CoalTurns();
        for (int s = 0; s < 12; s++) x.ship(s % 3, 0, 10, 10, s % 6, 1);
        x.buyer(0, 0, 115, 21);
        x.day(1, 0, 0);
        // each sells 10 at 15 but for the last in turn, ship 11, which sells 5
        for (int f = 0; f < 6; f++) check.due("P26 two SHIPS of FACTOR " + f, x.factor(f), f == 5 ? 225 : 300);
        check.due("P26 what the last took in", x.about(11, 11), 75);
        x.wreck(11, 5);
        check.due("P26 what was saved is not taken in", x.factor(5), 225);
        CoalTurns most = new CoalTurns();
        for (int s = 0; s < 20; s++) most.ship(PLAIN, 0, 400, 99, 5, 1);
        for (int b = 0; b < 4; b++) most.buyer(0, 0, 2000, 120);
        most.day(1, 0, 0);
        check.due("P26 the most", most.factor(5), 20 * 400 * 109);
        check.due("P26 other FACTORS", most.factor(4), 0);
    }
}
