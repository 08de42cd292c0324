/**
 * Rules 3 and 4 and promises 15 to 19, sentence by sentence: a DAY's steps at their edges, the BARGAINS' ends, hours
 * around full tens, the seventh SHIP TO CLEAR and the eighth, who may be KEPT BACK and who may not.
 */
public final class DayEdgesTest {
    private static final int NONE = CoalTurns.NONE, BAD = CoalTurns.BAD, FULL = CoalTurns.FULL;
    private static final int PLAIN = 0, LIGHT = 1, GAS = 2, BONDED = 3;
    private static final int AT_SEA = 0, ENTERED = 1, LATE = 2, SOLD = 3;
    private static final Check check = new Check();

    public static void main(String[] args) {
        everyNumberOfADay();
        todayIsBelowThousand();
        todayIsOneMore();
        theWayIsGone();
        theDayOnWhichTheyEntered();
        frostHoldsNoMarket();
        theBidIsNotBelowTheAsk();
        theSortIsTheSame();
        theGreatestBidFirst();
        ofLikeBidsTheLeastNumber();
        asMuchAsIsLeftAndWanted();
        thePriceOfABargainIsCut();
        whatComesToTheWard();
        inThisOrder();
        missedWhoSoldNothing();
        missedTwiceInAll();
        lateOnesStayLate();
        gasIsNeverLate();
        thePriceIsTheMeanCut();
        thePriceStaysWithoutSales();
        thePriceCountsForTheNextDay();
        burningEndsAtNothing();
        wardsBurnWhatCameToday();
        soldMeasuresAreTheAnswer();
        factsOfAShip();
        placesOfBargains();
        bargainsOfTheLatestDay();
        asManyBargainsAsCanBe();
        gangsAreOneToThree();
        hoursAreCutUp();
        sevenShipsAtMost();
        theFirstInTheOrderInWhichTheySold();
        theLeastHours();
        nothingToClear();
        heldOfWhichShip();
        heldOfKindsAndStates();
        heldBehindTheWind();
        heldIsTheFirstOfAll();
        heldBringsNoOtherShip();
        heldTakesNobodysPlace();
        heldWithoutSales();
        heldOfTheLatestMarket();
        heldAsTheyWereThen();
        duesByKind();
        check.end();
    }

    // ---- promise 15: day

    private static void everyNumberOfADay() {
        for (int frost = 0; frost <= 1; frost++) {
            int f = frost;
            check.range("P15 wind", 0, 9, BAD, wind -> new CoalTurns().day(wind, 0, f));
            check.range("P15 COLD", 0, 4, BAD, cold -> new CoalTurns().day(0, cold, f));
        }
        check.range("P15 FROST", 0, 1, BAD, frost -> new CoalTurns().day(9, 4, frost));
        CoalTurns x = new CoalTurns();
        x.day(10, 0, 0);
        x.day(0, 5, 0);
        x.day(0, 0, 2);
        check.due("P15 no DAY was", x.count(3), 0);
    }

    /** More calls than the document speaks of: TODAY is 999 behind 999 days. */
    private static void todayIsBelowThousand() {
        CoalTurns x = new CoalTurns();
        for (int d = 0; d < 998; d++) x.day(0, 0, 1);
        check.due("P15 TODAY is 998", x.day(0, 0, 0), 0);
        check.due("P15 TODAY is 999", x.day(0, 0, 0), FULL);
        check.due("P15 with FROST, too", x.day(0, 0, 1), FULL);
        check.due("P15 BAD is told ahead of FULL", x.day(10, 0, 0), BAD);
        check.due("P15 it stays 999", x.count(3), 999);
        Check.near(x, PLAIN, 0, 1, 1);
        x.day(9, 0, 0);
        check.due("P15 a refused DAY brings no SHIP", x.about(0, 7), AT_SEA);
    }

    private static void todayIsOneMore() {
        CoalTurns x = new CoalTurns();
        for (int d = 0; d < 6; d++) {
            check.due("R3 TODAY", x.count(3), d);
            x.day(d, 0, d % 2);
        }
        check.due("R3 TODAY", x.count(3), 6);
    }

    private static void theWayIsGone() {
        CoalTurns x = new CoalTurns();
        x.ship(PLAIN, 0, 1, 1, 0, 60);
        for (int d = 0; d < 6; d++) x.day(9, 0, 0);
        check.due("R3 60 less 54", x.about(0, 5), 6);
        x.day(5, 0, 0);
        check.due("R3 1 is left", x.about(0, 5), 1);
        check.due("R3 AT SEA", x.about(0, 7), AT_SEA);
        x.day(0, 0, 0);
        check.due("R3 no wind", x.about(0, 7), AT_SEA);
        x.day(1, 0, 0);
        check.due("R3 with 0 it is ENTERED", x.about(0, 7), ENTERED);
        check.due("R3 no WAY is left", x.about(0, 5), 0);
        x.day(9, 0, 1);
        check.due("R3 nor less than none", x.about(0, 5), 0);
    }

    private static void theDayOnWhichTheyEntered() {
        CoalTurns x = new CoalTurns();
        for (int s = 0; s < 4; s++) x.ship(s, 0, 1, 1, 0, 2 + 2 * s);
        for (int d = 0; d < 9; d++) x.day(2, 0, d % 2);
        int[] due = {0, 0, 2, 3};
        for (int s = 0; s < 4; s++) check.due("R3 the day on which " + s + " ENTERED", x.about(s, 8), due[s]);
    }

    private static void frostHoldsNoMarket() {
        CoalTurns x = new CoalTurns();
        Check.near(x, PLAIN, 0, 10, 10);
        x.buyer(0, 0, 100, 50);
        x.burn(0, 2, 3);
        x.store(0, 4);
        check.due("R3 nothing is sold", x.day(1, 2, 1), 0);
        check.due("R3 SHIPS come", x.about(0, 7), ENTERED);
        check.due("R3 none has MISSED", x.about(0, 9), 0);
        check.due("R3 WARDS burn", x.ward(0, 0), 1);
        check.due("R3 THE PRICE stays", x.count(4), 30);
        check.due("R3 no MARKET yet", x.held(0), NONE);
        check.due("R3 without FROST it sells", x.day(0, 0, 0), 10);
    }

    // ---- rule 3: the MARKET

    private static CoalTurns pair(int load, int ask, int want, int bid) {
        CoalTurns x = new CoalTurns();
        Check.near(x, PLAIN, 0, load, ask);
        x.buyer(0, 0, want, bid);
        return x;
    }

    private static void theBidIsNotBelowTheAsk() {
        int[] asks = {2, 50, 99};
        for (int ask : asks) {
            check.due("R3 BID 1 below the ASK", pair(10, ask, 10, ask - 1).day(1, 0, 0), 0);
            check.due("R3 BID as the ASK", pair(10, ask, 10, ask).day(1, 0, 0), 10);
            check.due("R3 BID 1 above the ASK", pair(10, ask, 10, ask + 1).day(1, 0, 0), 10);
        }
        check.due("R3 the least of both", pair(10, 1, 10, 1).day(1, 0, 0), 10);
        check.due("R3 the most of both", pair(10, 99, 10, 120).day(1, 0, 0), 10);
    }

    private static void theSortIsTheSame() {
        for (int of = 0; of < 4; of++) {
            for (int wanted = 0; wanted < 4; wanted++) {
                CoalTurns x = new CoalTurns();
                Check.near(x, PLAIN, of, 10, 10);
                x.buyer(0, wanted, 10, 10);
                check.due("R3 SORT " + of + " for " + wanted, x.day(1, 0, 0), of == wanted ? 10 : 0);
            }
        }
    }

    private static void bargainIs(String name, CoalTurns x, int i, int... facts) {
        for (int what = 0; what < 4; what++) check.due(name + ": bargain(" + i + ", " + what + ")", x.bargain(i, what), facts[what]);
    }

    private static void theGreatestBidFirst() {
        CoalTurns x = pair(25, 10, 10, 10);
        x.buyer(1, 0, 10, 120);
        x.buyer(2, 0, 10, 119);
        x.day(1, 0, 0);
        bargainIs("R3 120", x, 0, 0, 1, 10, 65);
        bargainIs("R3 119", x, 1, 0, 2, 10, 64);
        bargainIs("R3 10", x, 2, 0, 0, 5, 10);
        check.due("R3 three BARGAINS", x.count(5), 3);
    }

    private static void ofLikeBidsTheLeastNumber() {
        CoalTurns x = new CoalTurns();
        Check.near(x, PLAIN, 0, 25, 10);
        for (int b = 0; b < 10; b++) x.buyer(b % 6, 0, b == 0 ? 0 : 10, 20);
        x.day(1, 0, 0);
        bargainIs("R3 the least number that wants any", x, 0, 0, 1, 10, 15);
        bargainIs("R3 the next", x, 1, 0, 2, 10, 15);
        bargainIs("R3 and the next", x, 2, 0, 3, 5, 15);
        check.due("R3 nothing is LEFT", x.count(5), 3);
    }

    private static void asMuchAsIsLeftAndWanted() {
        for (int want = 9; want <= 11; want++) {
            CoalTurns x = pair(10, 10, want, 10);
            check.due("R3 10 are LEFT, " + want + " wanted", x.day(1, 0, 0), Math.min(10, want));
            check.due("R3 LEFT", x.about(0, 6), 10 - Math.min(10, want));
            check.due("R3 state", x.about(0, 7), want >= 10 ? SOLD : ENTERED);
            check.due("R3 one BARGAIN", x.count(5), 1);
            check.due("R3 still wanted", x.want(0, 0, 1), want - Math.min(10, want));
        }
        check.due("R3 the least", pair(1, 1, 1, 1).day(1, 0, 0), 1);
        check.due("R3 the most", pair(400, 99, 2000, 120).day(1, 0, 0), 400);
    }

    private static void thePriceOfABargainIsCut() {
        int[][] rows = {{1, 1, 1}, {1, 2, 1}, {1, 3, 2}, {10, 11, 10}, {11, 11, 11}, {99, 99, 99}, {99, 120, 109}, {1, 120, 60}};
        for (int[] row : rows) {
            CoalTurns x = pair(3, row[0], 3, row[1]);
            x.day(1, 0, 0);
            check.due("R3 ASK " + row[0] + ", BID " + row[1], x.bargain(0, 3), row[2]);
            check.due("R3 took in", x.about(0, 11), 3 * row[2]);
            check.due("R3 THE PRICE", x.count(4), row[2]);
        }
    }

    private static void whatComesToTheWard() {
        CoalTurns x = new CoalTurns();
        Check.near(x, PLAIN, 0, 10, 10);
        x.buyer(0, 0, 3, 20);
        x.buyer(5, 0, 4, 19);
        x.buyer(5, 0, 2, 18);
        x.day(1, 0, 0);
        int[] due = {3, 0, 0, 0, 0, 6};
        for (int w = 0; w < 6; w++) {
            check.due("R3 STORE of " + w, x.ward(w, 0), due[w]);
            check.due("R3 by BARGAINS, of " + w, x.ward(w, 3), due[w]);
        }
    }

    private static void inThisOrder() {
        CoalTurns x = new CoalTurns();
        Check.near(x, GAS, 0, 10, 10);
        Check.near(x, PLAIN, 0, 10, 30);
        Check.near(x, LIGHT, 0, 10, 20);
        Check.near(x, GAS, 0, 10, 5);
        x.buyer(0, 0, 35, 40);
        Check.order(x, "turn ask;sell 2", 0);
        check.due("R3 35 wanted", x.day(1, 0, 0), 35);
        int[] due = {2, 1, 0, 3};
        for (int i = 0; i < 4; i++) check.due("R3 by TURN, then GAS by numbers", x.bargain(i, 0), due[i]);
        check.due("R3 the last one sells the rest", x.bargain(3, 2), 5);
    }

    private static void missedWhoSoldNothing() {
        CoalTurns x = new CoalTurns();
        Check.near(x, PLAIN, 0, 400, 10);
        Check.near(x, PLAIN, 1, 400, 10);
        Check.near(x, PLAIN, 2, 400, 10);
        x.ship(PLAIN, 2, 400, 10, 0, 9);
        x.buyer(0, 0, 1, 10);
        Check.order(x, "turn entry;sell 2", 0);
        x.day(1, 0, 0);
        check.due("R3 one that sold 1 measure", x.about(0, 9), 0);
        check.due("R3 one that sold nothing", x.about(1, 9), 1);
        check.due("R3 one that was not IN TURN", x.about(2, 9), 0);
        check.due("R3 one AT SEA", x.about(3, 9), 0);
    }

    private static void missedTwiceInAll() {
        int[] kinds = {PLAIN, LIGHT};
        for (int kind : kinds) {
            CoalTurns x = new CoalTurns();
            Check.near(x, kind, 0, 10, 10);
            x.buyer(0, 0, 0, 10);
            x.day(1, 0, 0);
            check.due("R3 once", x.about(0, 9), 1);
            check.due("R3 it is ENTERED", x.about(0, 7), ENTERED);
            x.want(0, 1, 10);
            x.day(0, 0, 0);
            check.due("R3 it sold", x.about(0, 9), 1);
            x.day(0, 0, 1);
            check.due("R3 FROST", x.about(0, 9), 1);
            check.due("R3 it is ENTERED", x.about(0, 7), ENTERED);
            x.day(0, 0, 0);
            check.due("R3 twice in all", x.about(0, 9), 2);
            check.due("R3 it is LATE", x.about(0, 7), LATE);
        }
    }

    private static void lateOnesStayLate() {
        CoalTurns x = pair(10, 10, 0, 10);
        x.day(1, 0, 0);
        x.day(0, 0, 0);
        x.day(0, 0, 0);
        check.due("R3 a LATE one that MISSED", x.about(0, 9), 3);
        x.want(0, 9, 10);
        check.due("R3 a LATE one sells", x.day(0, 0, 0), 9);
        check.due("R3 and stays LATE", x.about(0, 7), LATE);
        x.want(0, 9, 10);
        check.due("R3 till nothing is LEFT", x.day(0, 0, 0), 1);
        check.due("R3 then it is SOLD", x.about(0, 7), SOLD);
        check.due("R3 the day on which it ENTERED", x.about(0, 8), 0);
    }

    private static void gasIsNeverLate() {
        CoalTurns x = new CoalTurns();
        Check.near(x, GAS, 0, 10, 10);
        for (int d = 1; d <= 5; d++) {
            x.day(1, 0, 0);
            check.due("R3 GAS MISSED", x.about(0, 9), d);
            check.due("R3 GAS is ENTERED", x.about(0, 7), ENTERED);
        }
    }

    private static void thePriceIsTheMeanCut() {
        int[][] rows = {{10, 20, 10, 21, 20}, {1, 10, 1, 11, 10}, {1, 10, 1, 12, 11}, {1, 10, 2, 11, 10}, {1, 10, 3, 13, 12}};
        for (int[] row : rows) {
            CoalTurns x = new CoalTurns();
            Check.near(x, PLAIN, 0, row[0], row[1]);
            Check.near(x, PLAIN, 1, row[2], row[3]);
            x.buyer(0, 0, 100, row[1]);
            x.buyer(0, 1, 100, row[3]);
            x.day(1, 0, 0);
            check.due("R3 the mean by measures", x.count(4), row[4]);
        }
        CoalTurns low = pair(1, 1, 1, 1);
        low.day(1, 0, 0);
        check.due("R3 the least PRICE", low.count(4), 1);
        CoalTurns high = pair(1, 99, 1, 120);
        high.day(1, 0, 0);
        check.due("R3 the greatest PRICE", high.count(4), 109);
    }

    private static void thePriceStaysWithoutSales() {
        CoalTurns x = pair(10, 40, 5, 50);
        check.due("R3 30 at first", x.count(4), 30);
        x.day(0, 0, 0);
        check.due("R3 nothing was sold", x.count(4), 30);
        x.day(1, 0, 0);
        check.due("R3 45", x.count(4), 45);
        x.day(1, 0, 0);
        x.day(1, 0, 1);
        check.due("R3 nothing was sold", x.count(4), 45);
    }

    private static void thePriceCountsForTheNextDay() {
        CoalTurns x = new CoalTurns();
        for (int s = 0; s < 4; s++) Check.near(x, PLAIN, 0, 10, 31);
        x.buyer(0, 0, 100, 31);
        Check.order(x, "turn entry;sell 1 at <31,2", 0);
        check.due("R3 THE PRICE is 30 till the MARKET ends", x.day(1, 0, 0), 10);
        check.due("R3 31 on the next day", x.day(0, 0, 0), 20);
    }

    // ---- rule 3: burning

    private static void burningEndsAtNothing() {
        int[][] rows = {{0, 0, 0, 0}, {0, 1, 0, 1}, {5, 4, 1, 0}, {5, 5, 0, 0}, {5, 6, 0, 1}, {9999, 500, 9499, 0}};
        for (int[] row : rows) {
            for (int cold = 0; cold < 5; cold++) {
                CoalTurns x = new CoalTurns();
                x.store(3, row[0]);
                x.burn(3, cold, row[1]);
                x.day(0, cold, cold % 2);
                check.due("R3 STORE", x.ward(3, 0), row[2]);
                check.due("R3 LACKS", x.ward(3, 1), row[3]);
                check.due("R3 burnt", x.ward(3, 2), row[0] - row[2]);
                check.due("R3 other WARDS do not LACK", x.ward(2, 1), 0);
            }
        }
        CoalTurns x = new CoalTurns();
        x.burn(0, 4, 500);
        x.day(0, 3, 0);
        check.due("R3 by another COLD", x.ward(0, 1), 0);
    }

    private static void wardsBurnWhatCameToday() {
        CoalTurns x = pair(10, 10, 10, 10);
        x.burn(0, 0, 10);
        x.day(1, 0, 0);
        check.due("R3 the MARKET is ahead of the burning", x.ward(0, 1), 0);
        check.due("R3 all is burnt", x.ward(0, 0), 0);
        check.due("R3 what came by BARGAINS stays told", x.ward(0, 3), 10);
    }

    private static void soldMeasuresAreTheAnswer() {
        CoalTurns x = new CoalTurns();
        check.due("P15 without SHIPS", x.day(9, 4, 0), 0);
        for (int s = 0; s < 5; s++) Check.near(x, PLAIN, 0, 400, 10);
        x.buyer(0, 0, 999, 10);
        x.buyer(1, 0, 1000, 10);
        check.due("P15 measures of all BARGAINS", x.day(1, 0, 0), 1999);
        check.due("P15 nothing more is wanted", x.day(1, 0, 0), 0);
    }

    // ---- promise 16: about

    private static void factsOfAShip() {
        CoalTurns x = new CoalTurns();
        check.due("P16 without SHIPS", x.about(0, 0), NONE);
        Check.near(x, PLAIN, 0, 10, 10);
        int[] ends = {-1, 13, Integer.MIN_VALUE, Integer.MAX_VALUE};
        for (int what : ends) check.due("P16 what " + what, x.about(0, what), NONE);
        for (int s : new int[] {-1, 1, Integer.MIN_VALUE, Integer.MAX_VALUE}) {
            for (int what = -1; what <= 13; what++) check.due("P16 SHIP " + s, x.about(s, what), NONE);
        }
        for (int s = 1; s < 20; s++) Check.near(x, PLAIN, 0, 10, 10);
        check.range("P16 SHIP of 20", 0, 19, NONE, s -> x.about(s, 12));
        check.due("P16 the day of one AT SEA", x.about(0, 8), NONE);
        x.buyer(0, 0, 7, 15);
        x.buyer(0, 0, 1, 14);
        x.day(1, 0, 0);
        int[] due = {0, 0, 10, 10, 0, 0, 2, 1, 0, 0, 8, 7 * 12 + 12, 16};
        for (int what = 0; what < 13; what++) check.due("P16 about " + what, x.about(0, what), due[what]);
    }

    // ---- promise 17: bargain

    private static void placesOfBargains() {
        CoalTurns x = new CoalTurns();
        check.due("P17 before any DAY", x.bargain(0, 0), NONE);
        Check.near(x, PLAIN, 0, 10, 10);
        for (int b = 0; b < 3; b++) x.buyer(0, 0, 2, 20 + b);
        x.day(1, 0, 0);
        for (int what = 0; what < 4; what++) {
            int w = what;
            check.range("P17 place, what " + what, 0, 2, NONE, i -> x.bargain(i, w));
        }
        check.range("P17 what", 0, 3, NONE, what -> x.bargain(2, what));
        check.due("P17 neither", x.bargain(3, 4), NONE);
        bargainIs("P17 the last", x, 2, 0, 0, 2, 15);
    }

    private static void bargainsOfTheLatestDay() {
        CoalTurns x = pair(10, 10, 3, 10);
        x.day(1, 0, 0);
        bargainIs("P17 the one", x, 0, 0, 0, 3, 10);
        check.due("P17 a refused DAY", x.day(10, 0, 0), BAD);
        bargainIs("P17 as before", x, 0, 0, 0, 3, 10);
        x.want(0, 5, 10);
        x.day(1, 0, 0);
        bargainIs("P17 of the latest DAY", x, 0, 0, 0, 5, 10);
        x.want(0, 5, 10);
        x.day(1, 0, 1);
        check.due("P17 none on a DAY with FROST", x.bargain(0, 0), NONE);
        check.due("P25 none on a DAY with FROST", x.count(5), 0);
        check.due("P18 nothing TO CLEAR then", x.clear(1), 0);
        x.day(1, 0, 0);
        check.due("P17 two are LEFT", x.bargain(0, 2), 2);
        x.day(1, 0, 0);
        check.due("P17 none on a DAY without sales", x.bargain(0, 0), NONE);
    }

    private static void asManyBargainsAsCanBe() {
        CoalTurns x = new CoalTurns();
        for (int s = 0; s < 20; s++) Check.near(x, PLAIN, 0, 19, 10);
        for (int b = 0; b < 10; b++) x.buyer(0, 0, 37, 20);
        check.due("P15 all is wanted", x.day(1, 0, 0), 370);
        check.due("P25 each leaves a SHIP or a BUYER with nothing", x.count(5), 29);
        check.due("P17 the last", x.bargain(28, 2), 9);
        check.due("P17 behind the last", x.bargain(29, 2), NONE);
    }

    // ---- promise 18: clear

    private static CoalTurns soldBy(int... amounts) {
        CoalTurns x = new CoalTurns();
        for (int amount : amounts) Check.near(x, PLAIN, 0, amount, 10);
        for (int b = 0; b < 2; b++) x.buyer(0, 0, 2000, 20);
        x.day(1, 0, 0);
        return x;
    }

    private static void gangsAreOneToThree() {
        CoalTurns x = soldBy(30, 30, 30);
        check.range("P18 GANGS", 1, 3, BAD, x::clear);
        check.range("P18 GANGS without a DAY", 1, 3, BAD, new CoalTurns()::clear);
        check.due("P18 1", x.clear(1), 9);
        check.due("P18 2", x.clear(2), 6);
        check.due("P18 3", x.clear(3), 3);
    }

    private static void hoursAreCutUp() {
        int[][] rows = {{1, 1}, {9, 1}, {10, 1}, {11, 2}, {19, 2}, {20, 2}, {21, 3}, {399, 40}, {400, 40}};
        for (int[] row : rows) {
            for (int gangs = 1; gangs <= 3; gangs++) check.due("R4 hours of " + row[0], soldBy(row[0]).clear(gangs), row[1]);
        }
        check.due("R4 of each SHIP, not of all", soldBy(1, 1, 1).clear(1), 3);
        CoalTurns x = new CoalTurns();
        Check.near(x, PLAIN, 0, 20, 10);
        for (int b = 0; b < 4; b++) x.buyer(0, 0, 5, 10);
        x.day(1, 0, 0);
        check.due("R4 of each SHIP, not of each BARGAIN", x.clear(1), 2);
        CoalTurns two = new CoalTurns();
        for (int s = 0; s < 2; s++) Check.near(two, PLAIN, 0, 10, 10);
        for (int b = 0; b < 4; b++) two.buyer(0, 0, 5, 10);
        two.day(1, 0, 0);
        check.due("R4 of each of two SHIPS, in two BARGAINS each", two.clear(1), 2);
        CoalTurns part = pair(400, 10, 11, 10);
        part.day(1, 0, 0);
        check.due("R4 of what it sold, not of its LOAD", part.clear(1), 2);
        part.want(0, 1, 10);
        part.day(1, 0, 0);
        check.due("R4 on the latest DAY", part.clear(1), 1);
    }

    private static void sevenShipsAtMost() {
        check.due("R4 six", soldBy(10, 10, 10, 10, 10, 10).clear(1), 6);
        check.due("R4 seven", soldBy(10, 10, 10, 10, 10, 10, 10).clear(1), 7);
        check.due("R4 the eighth does not count", soldBy(10, 10, 10, 10, 10, 10, 10, 10).clear(1), 7);
        check.due("R4 however much it sold", soldBy(10, 10, 10, 10, 10, 10, 10, 400).clear(1), 7);
        check.due("R4 the seventh does", soldBy(10, 10, 10, 10, 10, 10, 400).clear(1), 46);
        check.due("R4 twenty", soldBy(400, 400, 400, 400, 400, 400, 400, 1, 1, 1, 1, 1, 1, 1, 1, 1, 1, 1, 1, 1).clear(3), 120);
    }

    private static void theFirstInTheOrderInWhichTheySold() {
        CoalTurns x = new CoalTurns();
        for (int s = 0; s < 8; s++) Check.near(x, PLAIN, 0, s == 0 ? 400 : 10, 20 - s);
        Check.near(x, GAS, 1, 400, 1);
        x.buyer(0, 0, 2000, 20);
        x.buyer(0, 1, 2000, 20);
        Check.order(x, "turn ask;sell 8", 0);
        x.day(1, 0, 0);
        check.due("R4 by TURN, not by numbers", x.clear(1), 7);
        CoalTurns y = new CoalTurns();
        for (int s = 0; s < 9; s++) Check.near(y, PLAIN, s < 2 ? 1 : 0, 10, 10);
        y.buyer(0, 0, 2000, 20);
        y.day(1, 0, 0);
        check.due("R4 SHIPS that sold nothing do not count", y.clear(1), 7);
    }

    private static void theLeastHours() {
        check.due("R4 1 1 with 3", soldBy(10, 10).clear(3), 1);
        check.due("R4 5 and 1 1 1 1 with 2", soldBy(10, 10, 50, 10, 10).clear(2), 5);
        check.due("R4 3 3 and 2 2 2 with 2", soldBy(30, 30, 20, 20, 20).clear(2), 6);
        check.due("R4 each at one SHIP at a time", soldBy(50, 10).clear(3), 5);
        check.due("R4 no SHIP is shared: 3 of 2 hours with 2", soldBy(20, 20, 20).clear(2), 4);
        // 9 5 1, 8 6 and 7 7
        check.due("R4 7 SHIPS with 3", soldBy(50, 60, 70, 70, 80, 90, 10).clear(3), 15);
        check.due("R4 7 alike with 3", soldBy(400, 400, 400, 400, 400, 400, 400).clear(3), 120);
        check.due("R4 7 alike with 2", soldBy(400, 400, 400, 400, 400, 400, 400).clear(2), 160);
        check.due("R4 7 alike with 1", soldBy(400, 400, 400, 400, 400, 400, 400).clear(1), 280);
    }

    private static void nothingToClear() {
        CoalTurns x = new CoalTurns();
        Check.near(x, PLAIN, 0, 10, 10);
        x.day(1, 0, 0);
        for (int gangs = 1; gangs <= 3; gangs++) check.due("R4 none sold", x.clear(gangs), 0);
    }

    // ---- promise 19: held

    private static void heldOfWhichShip() {
        CoalTurns x = new CoalTurns();
        check.due("P19 no SHIP, no MARKET", x.held(0), NONE);
        Check.near(x, PLAIN, 0, 10, 10);
        check.due("P19 no MARKET yet", x.held(0), NONE);
        x.day(9, 0, 1);
        check.due("P19 no MARKET with FROST", x.held(0), NONE);
        x.day(0, 0, 0);
        check.range("P19 SHIP", 0, 0, NONE, x::held);
        Check.near(x, PLAIN, 0, 10, 10);
        check.due("P19 a SHIP that came behind the MARKET", x.held(1), NONE);
        for (int s = 2; s < 20; s++) Check.near(x, PLAIN, 0, 10, 10);
        x.day(0, 0, 0);
        check.range("P19 SHIP of 20", 1, 19, NONE, s -> s == 0 ? NONE : x.held(s));
    }

    private static void heldOfKindsAndStates() {
        CoalTurns x = new CoalTurns();
        x.ship(PLAIN, 0, 10, 10, 0, 60);
        x.ship(LIGHT, 0, 10, 10, 0, 60);
        x.ship(GAS, 0, 10, 10, 0, 60);
        x.ship(BONDED, 0, 10, 10, 0, 60);
        for (int kind = PLAIN; kind <= BONDED; kind++) Check.near(x, kind, 1, 10, 10);
        x.day(1, 0, 0);
        for (int s = 0; s < 8; s++) check.due("P19 AT SEA, then ENTERED ones", x.held(s), s % 4 == BONDED ? NONE : 30);
        x.goOn(7);
        x.wreck(0, 0);
        check.due("P19 a WRECK now was AT SEA then", x.held(0), 30);
        x.day(0, 0, 0);
        check.due("P19 a WRECK then", x.held(0), NONE);
        check.due("P19 GONE ON then", x.held(7), NONE);
        check.due("P19 LATE now was ENTERED then", x.held(4), 30);
        check.due("P19 it is LATE now", x.about(4, 7), LATE);
        x.day(0, 0, 0);
        check.due("P19 LATE then", x.held(4), NONE);
        check.due("P19 a GAS one that MISSED", x.held(6), 30);
        x.buyer(0, 1, 10, 50);
        x.day(0, 0, 0);
        check.due("P19 SOLD now, LATE then", x.held(4), NONE);
        CoalTurns sold = pair(10, 10, 10, 20);
        sold.day(1, 0, 0);
        check.due("P19 SOLD now, ENTERED then", sold.held(0), 15);
        sold.day(1, 0, 0);
        check.due("P19 SOLD then", sold.held(0), NONE);
    }

    private static void heldBehindTheWind() {
        CoalTurns x = new CoalTurns();
        x.ship(PLAIN, 0, 10, 10, 0, 1);
        x.ship(PLAIN, 0, 10, 20, 0, 2);
        x.buyer(0, 0, 20, 40);
        x.day(1, 0, 0);
        check.due("P19 it came with that DAY's wind", x.held(0), 25);
        check.due("P19 it is AT SEA behind it", x.held(1), 27);
        check.due("P19 it is AT SEA now, too", x.about(1, 7), AT_SEA);
        check.due("P19 and has all of its LOAD", x.about(1, 6), 10);
    }

    private static void heldIsTheFirstOfAll() {
        CoalTurns x = new CoalTurns();
        Check.near(x, PLAIN, 0, 10, 10);
        Check.near(x, LIGHT, 0, 10, 20);
        Check.near(x, GAS, 0, 10, 30);
        x.buyer(0, 0, 10, 100);
        x.buyer(0, 0, 10, 41);
        x.day(1, 0, 0);
        // 10 at 55, 10 at 30, then GAS finds no BUYER
        check.due("R4 THE PRICE", x.count(4), 42);
        check.due("R4 the first is the first", x.held(0), 42);
        // 10 at 60, 10 at 25
        check.due("R4 the second ahead of the first", x.held(1), 42);
        // 10 at 65, 10 at 25, then the second finds none
        check.due("R4 GAS ahead of all", x.held(2), 45);
        check.due("R4 it has MISSED all the same", x.about(2, 9), 1);
    }

    private static void heldBringsNoOtherShip() {
        CoalTurns x = new CoalTurns();
        x.ship(PLAIN, 0, 10, 10, 0, 60);
        x.ship(PLAIN, 0, 10, 14, 0, 60);
        Check.near(x, PLAIN, 0, 10, 20);
        Check.near(x, PLAIN, 0, 10, 30);
        x.buyer(0, 0, 100, 40);
        Check.order(x, "turn ask;sell 1", 0);
        x.day(1, 0, 0);
        check.due("R4 none but the one IN TURN", x.held(2), 30);
        check.due("R4 this one and the one IN TURN", x.held(0), (25 + 30) / 2);
        check.due("R4 this one and the one IN TURN", x.held(1), (27 + 30) / 2);
        check.due("R4 this one and the one IN TURN", x.held(3), (35 + 30) / 2);
        check.due("R4 asked again", x.held(2), 30);
    }

    private static void heldTakesNobodysPlace() {
        CoalTurns x = new CoalTurns();
        Check.near(x, PLAIN, 0, 10, 10);
        Check.near(x, PLAIN, 0, 10, 20);
        x.ship(PLAIN, 0, 10, 30, 0, 60);
        x.buyer(0, 0, 10, 100);
        x.buyer(0, 0, 10, 40);
        x.buyer(0, 0, 10, 32);
        Check.order(x, "turn ask;sell 1", 0);
        x.day(1, 0, 0);
        check.due("R4 MANY is 1", x.count(5), 1);
        check.due("R4 the one IN TURN, alone", x.held(0), 55);
        // 10 at 60, then the one IN TURN 10 at 25
        check.due("R4 one that was not IN TURN, ahead of it", x.held(1), 42);
        // 10 at 65, then 10 at 25
        check.due("R4 one AT SEA, ahead of it", x.held(2), 45);
        CoalTurns none = new CoalTurns();
        Check.near(none, PLAIN, 0, 10, 10);
        none.buyer(0, 0, 10, 100);
        Check.order(none, "turn ask;sell 0", 0);
        none.day(1, 0, 0);
        check.due("R4 MANY is 0", none.count(4), 30);
        check.due("R4 it would have been IN TURN", none.held(0), 55);
    }

    private static void heldWithoutSales() {
        CoalTurns x = pair(10, 40, 5, 50);
        x.ship(PLAIN, 1, 10, 10, 0, 60);
        x.day(1, 0, 0);
        x.day(1, 0, 0);
        check.due("R4 nothing would have been sold: as it was", x.held(1), 45);
        check.due("R4 nor by this one", x.held(0), 45);
        x.want(0, 5, 60);
        x.day(1, 0, 0);
        check.due("R4 it sells nothing, another does", x.held(1), 50);
        CoalTurns first = new CoalTurns();
        Check.near(first, PLAIN, 0, 10, 10);
        first.day(1, 0, 0);
        check.due("R4 30 at first", first.held(0), 30);
    }

    private static void heldOfTheLatestMarket() {
        CoalTurns x = new CoalTurns();
        Check.near(x, PLAIN, 0, 10, 10);
        x.ship(PLAIN, 0, 10, 20, 0, 60);
        x.buyer(0, 0, 10, 40);
        x.day(1, 0, 0);
        check.due("R4 of this MARKET", x.held(1), 30);
        x.day(1, 0, 1);
        check.due("R4 with FROST it is still the latest", x.held(1), 30);
        check.due("R4 for each", x.held(0), 25);
        x.want(0, 10, 60);
        x.day(1, 0, 0);
        check.due("R4 of the next MARKET", x.held(1), 40);
        check.due("R4 SOLD by then", x.held(0), NONE);
        check.due("R4 a refused DAY is no MARKET", x.day(1, 5, 0), BAD);
        check.due("R4 still that one", x.held(1), 40);
    }

    private static void heldAsTheyWereThen() {
        CoalTurns x = new CoalTurns();
        Check.near(x, PLAIN, 0, 10, 10);
        x.ship(PLAIN, 0, 10, 20, 0, 60);
        x.buyer(0, 0, 15, 40);
        Check.order(x, "turn ask;sell 1", 0);
        x.day(1, 0, 0);
        int due = (10 * 30 + 5 * 25) / 15;
        check.due("R4 as it was", x.held(1), due);
        x.ask(1, 99);
        check.due("R4 ASK as it was then", x.held(1), due);
        x.want(0, 2000, 120);
        check.due("R4 BUYERS as they were then", x.held(1), due);
        x.buyer(0, 0, 2000, 120);
        check.due("R4 without BUYERS that came later", x.held(1), due);
        Check.order(x, "turn ask;sell 0", 0);
        check.due("R4 the ORDER as it was then", x.held(1), due);
        x.wreck(1, 5);
        check.due("R4 SHIPS as they were then", x.held(1), due);
        x.tried(-1, 30, 9, 0, 0);
        check.due("R4 no MARKET that was tried", x.held(1), due);
        check.due("R4 nothing is changed by it", x.about(0, 9), 0);
    }

    // ---- rule 4: dues

    private static void duesByKind() {
        int[] each = {2, 2, 1};
        for (int kind = PLAIN; kind <= GAS; kind++) {
            CoalTurns x = new CoalTurns();
            Check.near(x, kind, 0, 10, 10);
            x.buyer(0, 0, 1, 10);
            check.due("R4 nothing for those AT SEA", x.count(6), 0);
            x.day(1, 0, 1);
            check.due("R4 nothing for those that ENTER", x.count(6), 0);
            x.day(1, 0, 0);
            check.due("R4 for 1 measure", x.about(0, 12), each[kind]);
            x.want(0, 9, 10);
            x.day(1, 0, 0);
            check.due("R4 for 10 measures", x.about(0, 12), 10 * each[kind]);
            check.due("R4 DUES of all", x.count(6), 10 * each[kind]);
        }
    }
}
