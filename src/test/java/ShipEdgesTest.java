/**
 * Rule 1 and promises 1 to 9, sentence by sentence: the last number taken and the first refused on either side, the
 * call that fills a row and the one behind it, each state that a call asks for.
 */
public final class ShipEdgesTest {
    private static final int NONE = CoalTurns.NONE, BAD = CoalTurns.BAD, STATE = CoalTurns.STATE, FULL = CoalTurns.FULL;
    private static final int PLAIN = 0, LIGHT = 1, GAS = 2, BONDED = 3;
    private static final int AT_SEA = 0, ENTERED = 1, LATE = 2, SOLD = 3, GONE_ON = 4, WRECK = 5;
    private static final Check check = new Check();

    public static void main(String[] args) {
        nothingIsThere();
        objectsShareNothing();
        everyNumberOfAShip();
        refusedShipsTakeNoNumber();
        twentyShipsAtMost();
        aShipIsAtSeaAtFirst();
        lightGoesTwiceAsFar();
        gasHasATurnOfItsOwn();
        bondedDoesNotSell();
        soldWithNothingLeft();
        askIsOneToNinetyNine();
        askOfEveryState();
        savedIsNoneToLeft();
        savedOfWhatIsLeft();
        wrecksOfEveryState();
        aWreckSellsNoMore();
        wrecksPayByKind();
        goOnOfEveryKindAndState();
        goOnGivesTwoOfThreeBack();
        everyNumberOfABuyer();
        tenBuyersAtMost();
        wantIsNoneToTwoThousand();
        wantOfNothing();
        burnByWardAndCold();
        storeTakesNoneToMost();
        check.end();
    }

    // ---- promise 1: nothing is there

    private static void nothingIsThere() {
        CoalTurns x = new CoalTurns();
        int[] due = {0, 0, 0, 0, 30, 0, 0, 0};
        for (int what = 0; what < 8; what++) check.due("P1 count " + what, x.count(what), due[what]);
        for (int what = 0; what < 13; what++) check.due("P1 no SHIP", x.about(0, what), NONE);
        for (int what = 0; what < 4; what++) check.due("P1 no BARGAIN", x.bargain(0, what), NONE);
        for (int gangs = 1; gangs <= 3; gangs++) check.due("P1 nothing TO CLEAR", x.clear(gangs), 0);
        check.due("P1 nobody IN TURN", x.turn(0), NONE);
        check.due("P1 no MARKET yet", x.held(0), NONE);
        check.due("P1 no ORDER in force", x.force(0), NONE);
        check.due("P1 no ORDER", x.many(0, 30), NONE);
        check.due("P1 no BUYER", x.want(0, 0, 1), NONE);
        check.due("P1 THE TAPE is empty", x.order(0), -10);
        for (int w = 0; w < 6; w++) {
            for (int what = 0; what < 4; what++) check.due("P1 ward", x.ward(w, what), 0);
            for (int cold = 0; cold < 5; cold++) check.due("P1 burns 0 at first", x.burn(w, cold, 0), 0);
            for (int cold = 0; cold < 5; cold++) check.due("P1 lasts ever", x.lasts(w, cold), 1000);
            check.due("P1 factor", x.factor(w), 0);
        }
    }

    private static void objectsShareNothing() {
        check.isTrue("P1 another object is as new", Picture.of(ShipEdgesTest::besideAnother).equals(Picture.of(CoalTurns::new)));
    }

    private static CoalTurns besideAnother() {
        CoalTurns x = new CoalTurns();
        CoalTurns other = new CoalTurns();
        Check.near(other, PLAIN, 0, 10, 10);
        other.buyer(0, 0, 5, 20);
        other.store(0, 5);
        other.burn(0, 0, 7);
        other.measure(1, 2);
        Check.order(other, "turn ask;sell 1", 0);
        other.day(9, 0, 0);
        other.feed(116, 1);
        return x;
    }

    // ---- promise 2: ship

    private static int shipWith(int at, int number, int[] others) {
        int[] a = others.clone();
        a[at] = number;
        return new CoalTurns().ship(a[0], a[1], a[2], a[3], a[4], a[5]);
    }

    private static void everyNumberOfAShip() {
        String[] names = {"KIND", "SORT", "LOAD", "ASK", "FACTOR", "WAY"};
        int[] low = {0, 0, 1, 1, 0, 1};
        int[] high = {3, 3, 400, 99, 5, 60};
        for (int i = 0; i < 6; i++) {
            int at = i;
            check.range("P2 least others, " + names[i], low[i], high[i], BAD, n -> shipWith(at, n, low));
            check.range("P2 most others, " + names[i], low[i], high[i], BAD, n -> shipWith(at, n, high));
        }
        CoalTurns x = new CoalTurns();
        x.ship(low[0], low[1], low[2], low[3], low[4], low[5]);
        x.ship(high[0], high[1], high[2], high[3], high[4], high[5]);
        for (int what = 0; what < 6; what++) {
            check.due("P2 the least " + names[what], x.about(0, what), low[what]);
            check.due("P2 the most " + names[what], x.about(1, what), high[what]);
        }
    }

    private static void refusedShipsTakeNoNumber() {
        CoalTurns x = new CoalTurns();
        check.due("P2 BAD", x.ship(0, 0, 401, 1, 0, 1), BAD);
        check.due("P2 the first number is 0", x.ship(0, 0, 400, 1, 0, 1), 0);
        check.due("P2 BAD", x.ship(0, 0, 0, 1, 0, 1), BAD);
        check.due("P2 the next is 1", x.ship(0, 0, 1, 1, 0, 1), 1);
    }

    private static void twentyShipsAtMost() {
        CoalTurns x = new CoalTurns();
        for (int s = 0; s < 20; s++) {
            check.due("P2 no such SHIP yet", x.about(s, 2), NONE);
            check.due("P2 ship " + s, x.ship(s % 4, 0, 1 + s, 1, 0, 1), s);
            check.due("P2 its LOAD", x.about(s, 2), 1 + s);
        }
        check.due("P2 the 21st", x.ship(0, 0, 1, 1, 0, 1), FULL);
        check.due("P2 BAD is told ahead of FULL", x.ship(4, 0, 1, 1, 0, 1), BAD);
        check.due("P2 there are 20", x.count(0), 20);
        check.due("P2 there is no 21st", x.about(20, 0), NONE);
        x.wreck(3, 0);
        x.day(9, 0, 0);
        x.goOn(7);
        check.due("P2 WRECKS and those GONE ON keep their numbers", x.ship(0, 0, 1, 1, 0, 1), FULL);
    }

    private static void aShipIsAtSeaAtFirst() {
        for (int kind = PLAIN; kind <= BONDED; kind++) {
            CoalTurns x = new CoalTurns();
            x.ship(kind, 2, 400, 99, 5, 60);
            int[] due = {kind, 2, 400, 99, 5, 60, 400, AT_SEA, NONE, 0, 0, 0, 0};
            for (int what = 0; what < 13; what++) check.due("P2 new: about " + what, x.about(0, what), due[what]);
            check.due("P2 it is not IN TURN", x.turn(0), NONE);
        }
    }

    // ---- rule 1: kinds and states

    private static void stateBehindWind(String name, int kind, int way, int wind, int state, int rest) {
        CoalTurns x = new CoalTurns();
        x.ship(kind, 0, 1, 1, 0, way);
        x.day(wind, 0, 0);
        check.due(name + ": state", x.about(0, 7), state);
        check.due(name + ": WAY", x.about(0, 5), rest);
        check.due(name + ": day", x.about(0, 8), state == ENTERED ? 0 : NONE);
    }

    private static void lightGoesTwiceAsFar() {
        int[] slow = {PLAIN, GAS, BONDED};
        for (int kind : slow) {
            stateBehindWind("R1 WAY 10, wind 9", kind, 10, 9, AT_SEA, 1);
            stateBehindWind("R1 WAY 9, wind 9", kind, 9, 9, ENTERED, 0);
            stateBehindWind("R1 WAY 8, wind 9", kind, 8, 9, ENTERED, 0);
            stateBehindWind("R1 WAY 1, no wind", kind, 1, 0, AT_SEA, 1);
        }
        stateBehindWind("R1 LIGHT, WAY 19, wind 9", LIGHT, 19, 9, AT_SEA, 1);
        stateBehindWind("R1 LIGHT, WAY 18, wind 9", LIGHT, 18, 9, ENTERED, 0);
        stateBehindWind("R1 LIGHT, WAY 17, wind 9", LIGHT, 17, 9, ENTERED, 0);
        stateBehindWind("R1 LIGHT, WAY 3, wind 1", LIGHT, 3, 1, AT_SEA, 1);
        stateBehindWind("R1 LIGHT, WAY 1, no wind", LIGHT, 1, 0, AT_SEA, 1);
    }

    private static void gasHasATurnOfItsOwn() {
        CoalTurns x = new CoalTurns();
        for (int kind = PLAIN; kind <= BONDED; kind++) Check.near(x, kind, 0, 10, 10);
        x.buyer(0, 0, 100, 10);
        Check.order(x, "turn entry;sell 0", 0);
        check.due("R1 none but the GAS one sells", x.day(1, 0, 0), 10);
        check.due("R1 it is SOLD", x.about(GAS, 7), SOLD);
    }

    private static void bondedDoesNotSell() {
        CoalTurns x = new CoalTurns();
        Check.near(x, BONDED, 0, 400, 1);
        x.buyer(0, 0, 2000, 120);
        check.due("R1 it does not sell", x.day(1, 0, 0), 0);
        check.due("R1 nor is it IN TURN", x.turn(0), NONE);
        x.day(1, 0, 0);
        x.day(1, 0, 0);
        check.due("R1 nor has it MISSED", x.about(0, 9), 0);
        check.due("R1 nor is it LATE", x.about(0, 7), ENTERED);
        check.due("R1 it pays but once", x.about(0, 12), 1200);
    }

    private static void soldWithNothingLeft() {
        CoalTurns x = new CoalTurns();
        Check.near(x, PLAIN, 0, 10, 10);
        x.buyer(0, 0, 9, 10);
        x.day(1, 0, 0);
        check.due("R1 one measure is LEFT", x.about(0, 6), 1);
        check.due("R1 it is ENTERED", x.about(0, 7), ENTERED);
        x.want(0, 1, 10);
        x.day(1, 0, 0);
        check.due("R1 nothing is LEFT", x.about(0, 6), 0);
        check.due("R1 it is SOLD", x.about(0, 7), SOLD);
        check.due("R1 the day on which it ENTERED stays", x.about(0, 8), 0);
        check.due("R1 LOAD stays", x.about(0, 2), 10);
    }

    // ---- promise 3: ask

    /** A ship of every state, by its number: see the constants. */
    private static CoalTurns everyState() {
        CoalTurns x = new CoalTurns();
        x.ship(PLAIN, 0, 10, 20, 0, 60);
        x.ship(LIGHT, 0, 10, 21, 0, 6);
        x.ship(PLAIN, 1, 10, 22, 0, 1);
        x.ship(PLAIN, 2, 10, 23, 0, 1);
        x.ship(BONDED, 0, 10, 24, 0, 1);
        x.ship(PLAIN, 0, 10, 25, 0, 1);
        x.buyer(0, 2, 10, 99);
        x.day(1, 0, 0);
        x.wreck(WRECK, 4);
        x.goOn(GONE_ON);
        x.day(1, 0, 0);
        x.day(1, 0, 1);
        for (int state = AT_SEA; state <= WRECK; state++) check.due("a ship of state " + state, x.about(state, 7), state);
        return x;
    }

    private static void askIsOneToNinetyNine() {
        CoalTurns x = new CoalTurns();
        Check.near(x, PLAIN, 0, 10, 50);
        check.range("P3 ASK", 1, 99, BAD, a -> x.ask(0, a));
        check.due("P3 what was taken last", x.ask(0, 7), 99);
        check.due("P3 ASK 0", x.ask(0, 0), BAD);
        check.due("P3 ASK 100", x.ask(0, 100), BAD);
        check.due("P3 it stayed", x.about(0, 3), 7);
        check.due("P3 the same once more", x.ask(0, 7), 7);
        check.range("P3 SHIP", 0, 0, NONE, s -> x.ask(s, 50));
        check.due("P3 NONE is told ahead of BAD", x.ask(1, 100), NONE);
        for (int s = 1; s < 20; s++) Check.near(x, PLAIN, 0, 10, s);
        check.due("P3 of the last SHIP", x.ask(19, 99), 19);
        check.due("P3 of no other", x.about(18, 3), 18);
        check.due("P3 behind the last", x.ask(20, 99), NONE);
    }

    private static void askOfEveryState() {
        CoalTurns x = everyState();
        for (int s = AT_SEA; s <= WRECK; s++) {
            check.due("P3 what it was", x.ask(s, 99), 20 + s);
            check.due("P3 what it is", x.about(s, 3), 99);
            check.due("P3 the state stays", x.about(s, 7), s);
        }
    }

    // ---- promise 4: wreck

    private static int wreckOf(int kind, int load, int saved) {
        CoalTurns x = new CoalTurns();
        x.ship(kind, 0, load, 1, 0, 60);
        return x.wreck(0, saved);
    }

    private static void savedIsNoneToLeft() {
        check.range("P4 saved of 10", 0, 10, BAD, saved -> wreckOf(PLAIN, 10, saved));
        check.range("P4 saved of 1", 0, 1, BAD, saved -> wreckOf(PLAIN, 1, saved));
        check.range("P4 saved of 400", 0, 400, BAD, saved -> wreckOf(PLAIN, 400, saved));
        check.due("P4 DUES for none", wreckOf(PLAIN, 400, 0), 0);
        check.due("P4 DUES for all", wreckOf(PLAIN, 400, 400), 800);
        CoalTurns x = new CoalTurns();
        check.due("P4 without SHIPS", x.wreck(0, 0), NONE);
        Check.near(x, PLAIN, 0, 10, 1);
        check.due("P4 SHIP -1", x.wreck(-1, 0), NONE);
        check.due("P4 SHIP 1", x.wreck(1, 0), NONE);
        check.due("P4 NONE is told ahead of BAD", x.wreck(1, -1), NONE);
    }

    private static void savedOfWhatIsLeft() {
        for (int saved = 5; saved <= 8; saved++) {
            CoalTurns x = new CoalTurns();
            Check.near(x, PLAIN, 0, 10, 10);
            x.buyer(0, 0, 4, 10);
            x.day(1, 0, 0);
            check.due("P4 of 6 that are LEFT", x.wreck(0, saved), saved <= 6 ? 2 * saved : BAD);
            check.due("P4 LEFT", x.about(0, 6), saved <= 6 ? 6 - saved : 6);
            check.due("P4 sold is as it was", x.about(0, 10), 4);
            check.due("P4 taken in is as it was", x.about(0, 11), 40);
            check.due("P4 DUES", x.about(0, 12), saved <= 6 ? 8 + 2 * saved : 8);
            check.due("P4 state", x.about(0, 7), saved <= 6 ? WRECK : ENTERED);
        }
    }

    private static void wrecksOfEveryState() {
        int[] due = {0, 0, 0, STATE, STATE, STATE};
        for (int s = AT_SEA; s <= WRECK; s++) {
            CoalTurns x = everyState();
            int left = x.about(s, 6);
            check.due("P4 BAD is told ahead of STATE", x.wreck(s, left + 1), BAD);
            check.due("P4 BAD is told ahead of STATE", x.wreck(s, -1), BAD);
            check.due("P4 wreck of state " + s, x.wreck(s, 0), due[s]);
            check.due("P4 what became of it", x.about(s, 7), due[s] == 0 ? WRECK : s);
            check.due("P4 LEFT stays without saving", x.about(s, 6), left);
            check.due("P4 a second time", x.wreck(s, 0), STATE);
        }
    }

    private static void aWreckSellsNoMore() {
        CoalTurns x = new CoalTurns();
        Check.near(x, PLAIN, 0, 10, 10);
        Check.near(x, GAS, 0, 10, 10);
        x.ship(PLAIN, 0, 10, 10, 0, 2);
        x.day(1, 0, 1);
        for (int s = 0; s < 3; s++) x.wreck(s, 0);
        x.buyer(0, 0, 100, 10);
        check.due("R1 WRECKS do not sell", x.day(9, 0, 0), 0);
        check.due("R1 none is IN TURN", x.turn(0), NONE);
        check.due("R1 nor does it MISS", x.about(0, 9), 0);
        check.due("R1 one of those AT SEA never comes", x.about(2, 8), NONE);
        check.due("R1 and is a WRECK", x.about(2, 7), WRECK);
    }

    private static void wrecksPayByKind() {
        int[] each = {2, 2, 1, 2};
        for (int kind = PLAIN; kind <= BONDED; kind++) {
            check.due("R4 DUES of kind " + kind, wreckOf(kind, 30, 7), 7 * each[kind]);
            CoalTurns x = new CoalTurns();
            Check.near(x, kind, 0, 30, 1);
            x.day(1, 0, 1);
            int before = x.about(0, 12);
            x.wreck(0, 1);
            check.due("R4 DUES that it paid", x.about(0, 12), before + each[kind]);
            check.due("R4 DUES of all", x.count(6), before + each[kind]);
        }
    }

    // ---- promise 5: goOn

    private static void goOnOfEveryKindAndState() {
        for (int kind = PLAIN; kind <= BONDED; kind++) {
            CoalTurns x = new CoalTurns();
            x.ship(kind, 0, 10, 10, 0, 2);
            check.due("P5 AT SEA", x.goOn(0), STATE);
            x.day(1, 0, 0);
            check.due("P5 still AT SEA", x.goOn(0), STATE);
            x.day(1, 0, 1);
            check.due("P5 kind " + kind + " on the day it ENTERED", x.goOn(0), kind == BONDED ? 20 : STATE);
            check.due("P5 state", x.about(0, 7), kind == BONDED ? GONE_ON : ENTERED);
            check.due("P5 again", x.goOn(0), STATE);
        }
        CoalTurns x = everyState();
        for (int s = AT_SEA; s <= WRECK; s++) check.due("P5 state " + s, x.goOn(s), STATE);
        check.due("P5 SHIP -1", x.goOn(-1), NONE);
        check.due("P5 SHIP 6", x.goOn(6), NONE);
        CoalTurns wreck = new CoalTurns();
        Check.near(wreck, BONDED, 0, 10, 10);
        wreck.day(1, 0, 0);
        wreck.wreck(0, 10);
        check.due("P5 a BONDED WRECK", wreck.goOn(0), STATE);
        check.due("P5 it gets nothing back", wreck.about(0, 12), 30 + 20);
    }

    private static void goOnGivesTwoOfThreeBack() {
        int[] loads = {1, 400};
        for (int load : loads) {
            CoalTurns x = new CoalTurns();
            Check.near(x, BONDED, 0, load, 10);
            check.due("R4 nothing AT SEA", x.about(0, 12), 0);
            x.day(1, 0, 0);
            check.due("R4 3 for each", x.about(0, 12), 3 * load);
            check.due("R4 2 of them back", x.goOn(0), 2 * load);
            check.due("R4 less what it got back", x.about(0, 12), load);
            check.due("R4 DUES of all", x.count(6), load);
            check.due("R4 what is LEFT goes with it", x.about(0, 6), load);
        }
    }

    // ---- promises 6 and 7: buyer, want

    private static void everyNumberOfABuyer() {
        check.range("P6 WARD", 0, 5, NONE, w -> new CoalTurns().buyer(w, 0, 0, 1));
        check.range("P6 SORT", 0, 3, BAD, s -> new CoalTurns().buyer(0, s, 0, 1));
        check.range("P6 want", 0, 2000, BAD, w -> new CoalTurns().buyer(0, 0, w, 1));
        check.range("P6 BID", 1, 120, BAD, b -> new CoalTurns().buyer(0, 0, 0, b));
        check.range("P6 most others, WARD", 0, 5, NONE, w -> new CoalTurns().buyer(w, 3, 2000, 120));
        check.range("P6 most others, SORT", 0, 3, BAD, s -> new CoalTurns().buyer(5, s, 2000, 120));
        CoalTurns x = new CoalTurns();
        check.due("P6 NONE is told ahead of BAD", x.buyer(6, 4, -1, 0), NONE);
        check.due("P6 BAD", x.buyer(5, 4, 0, 1), BAD);
        check.due("P6 refused ones take no number", x.buyer(5, 3, 2000, 120), 0);
        Check.near(x, PLAIN, 3, 400, 99);
        check.due("P6 it buys", x.day(1, 0, 0), 400);
        check.due("P6 at the BID", x.bargain(0, 3), (99 + 120) / 2);
        check.due("P6 for its WARD", x.ward(5, 3), 400);
        check.due("P6 what it wanted", x.want(0, 0, 1), 1600);
    }

    private static void tenBuyersAtMost() {
        CoalTurns x = new CoalTurns();
        for (int b = 0; b < 10; b++) {
            check.due("P6 no such BUYER yet", x.want(b, 0, 1), NONE);
            check.due("P6 buyer " + b, x.buyer(b % 6, b % 4, b, 1), b);
            check.due("P6 count", x.count(1), b + 1);
        }
        check.due("P6 the 11th", x.buyer(0, 0, 0, 1), FULL);
        check.due("P6 NONE is told ahead of FULL", x.buyer(6, 0, 0, 1), NONE);
        check.due("P6 BAD is told ahead of FULL", x.buyer(0, 0, 0, 121), BAD);
        check.due("P6 there are 10", x.count(1), 10);
        check.due("P7 the last BUYER", x.want(9, 2000, 120), 9);
        check.due("P7 behind the last", x.want(10, 2000, 120), NONE);
    }

    private static void wantIsNoneToTwoThousand() {
        CoalTurns x = new CoalTurns();
        x.buyer(0, 0, 100, 50);
        check.range("P7 want", 0, 2000, BAD, w -> x.want(0, w, 50));
        check.range("P7 BID", 1, 120, BAD, b -> x.want(0, 100, b));
        check.range("P7 BUYER", 0, 0, NONE, b -> x.want(b, 100, 50));
        check.due("P7 NONE is told ahead of BAD", x.want(1, 2001, 0), NONE);
        check.due("P7 BAD want", x.want(0, 2001, 50), BAD);
        check.due("P7 BAD bid", x.want(0, 7, 121), BAD);
        check.due("P7 what it wanted is as it was", x.want(0, 2000, 120), 100);
        Check.near(x, PLAIN, 0, 10, 99);
        x.want(0, 7, 0);
        check.due("P7 and what it BIDS", x.day(1, 0, 0), 10);
        check.due("P7 by BARGAINS it wants less", x.want(0, 0, 1), 1990);
        check.due("P7 the least", x.want(0, 2000, 1), 0);
    }

    private static void wantOfNothing() {
        CoalTurns x = new CoalTurns();
        Check.near(x, PLAIN, 0, 10, 10);
        x.buyer(0, 0, 0, 120);
        check.due("P6 one that wants nothing", x.day(1, 0, 0), 0);
        check.due("R3 so the SHIP has MISSED", x.about(0, 9), 1);
        x.want(0, 1, 9);
        check.due("P7 a BID below the ASK", x.day(1, 0, 0), 0);
        x.want(0, 1, 10);
        check.due("P7 a BID as the ASK", x.day(1, 0, 0), 1);
        check.due("P7 it has all that it wanted", x.day(1, 0, 0), 0);
    }

    // ---- promises 8 and 9: burn, store

    private static void burnByWardAndCold() {
        check.range("P8 WARD", 0, 5, NONE, w -> new CoalTurns().burn(w, 0, 0));
        check.range("P8 COLD", 0, 4, BAD, c -> new CoalTurns().burn(0, c, 0));
        check.range("P8 amount", 0, 500, BAD, a -> new CoalTurns().burn(0, 0, a));
        CoalTurns x = new CoalTurns();
        check.due("P8 NONE is told ahead of BAD", x.burn(6, 5, 501), NONE);
        for (int w = 0; w < 6; w++) {
            for (int c = 0; c < 5; c++) check.due("P8 0 at first", x.burn(w, c, 1 + 10 * w + c), 0);
        }
        x.burn(3, 2, 501);
        x.burn(3, 2, -1);
        for (int w = 0; w < 6; w++) {
            for (int c = 0; c < 5; c++) check.due("P8 what it was", x.burn(w, c, 500), 1 + 10 * w + c);
        }
        x.store(4, 501);
        x.day(0, 3, 0);
        check.due("P8 the most in one day", x.ward(4, 0), 1);
    }

    private static void storeTakesNoneToMost() {
        check.range("P9 WARD", 0, 5, NONE, w -> new CoalTurns().store(w, 0));
        check.range("P9 more", 0, 9999, BAD, m -> new CoalTurns().store(0, m));
        CoalTurns x = new CoalTurns();
        check.due("P9 NONE is told ahead of BAD", x.store(6, 10000), NONE);
        for (int w = 0; w < 6; w++) check.due("P9 what it has", x.store(w, w), w);
        for (int i = 1; i <= 400; i++) check.due("P9 it grows on", x.store(5, 9999), 5 + 9999 * i);
        check.due("P9 BAD", x.store(5, 10000), BAD);
        check.due("P9 nothing came", x.store(5, 0), 5 + 9999 * 400);
        check.due("P9 to no other WARD", x.ward(4, 0), 4);
        check.due("P9 it did not come by BARGAINS", x.ward(5, 3), 0);
    }
}
