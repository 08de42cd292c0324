/**
 * Rule 2 and promises 10 to 14, sentence by sentence: THE TAPE's end, each place where an ORDER can go wrong, the days
 * around the one from which it is in force, the PRICES around a P, the ends of those IN TURN.
 */
public final class OrderEdgesTest {
    private static final int NONE = CoalTurns.NONE, BAD = CoalTurns.BAD, FULL = CoalTurns.FULL;
    private static final int PLAIN = 0, LIGHT = 1, GAS = 2, BONDED = 3;
    private static final Check check = new Check();

    public static void main(String[] args) {
        oneToEightBytes();
        theHighestByteFirst();
        everyByteIsAByte();
        hundredAndTwentyBytesAtMost();
        theTapeIsEmptyBehindAnOrder();
        theDayOfAnOrder();
        eightOrdersAtMost();
        theEmptyTape();
        tapesThatEndTooEarly();
        everyKeyAndNoOther();
        oneOrTwoDigitsOfMany();
        oneToThreeDigitsOfAPrice();
        threePartsAtMost();
        oneBlankAndNoOther();
        noOtherSigns();
        shortestAndLongest();
        noneIsInForce();
        inForceFromADayOn();
        ofOneDayTheGreatestNumber();
        theLaterDayNotTheLaterNumber();
        withoutOneEntryAndNinetyNine();
        manyOfWhichOrder();
        manyAroundAPrice();
        manyOfTheFirstPart();
        manyOfTheEndsOfP();
        placesInTurn();
        manyOfThoseInTurn();
        whoIsNotInTurn();
        likeOnesByNumber();
        entryByDay();
        loadByWhatIsLeft();
        lotByTheDay();
        lateOnesBehindAllOthers();
        turnByTheOrderOfToday();
        turnByThePrice();
        check.end();
    }

    // ---- promise 10: feed

    private static void oneToEightBytes() {
        check.range("P10 n", 1, 8, BAD, n -> new CoalTurns().feed(0, n));
        for (int n = 1; n <= 8; n++) {
            CoalTurns x = new CoalTurns();
            check.due("P10 how many it has", x.feed(-1L, n), n);
            check.due("P10 and those behind them", x.feed(0L, 8), n + 8);
            check.due("P10 count", x.count(7), n + 8);
        }
        CoalTurns x = new CoalTurns();
        x.feed(0, 0);
        x.feed(0, 9);
        check.due("P10 none came", x.count(7), 0);
    }

    private static void theHighestByteFirst() {
        CoalTurns x = new CoalTurns();
        x.feed(0x7475726E206C6F61L, 8);
        x.feed(0x643B73656C6C2031L, 8);
        x.feed(0x2020202020202039L, 1);
        check.due("P10 'turn load;sell 1' and the lowest byte, '9'", x.order(0), 0);
        check.due("P10 MANY", x.many(0, 0), 19);
        x.feed(0xFFFF74L, 1);
        x.feed(0xFF7572L, 2);
        check.due("P10 the n lowest alone", x.order(0), -13);
    }

    private static void everyByteIsAByte() {
        for (int b = 0; b < 256; b++) {
            CoalTurns x = new CoalTurns();
            x.feed(b, 1);
            check.due("P10 byte " + b + " at the start", x.order(0), b == 't' ? -11 : -10);
            check.due("P10 byte " + b + " behind an N", faultBehind("turn ask;sell 1", b), b >= '0' && b <= '9' ? 0 : b == ' ' ? -26 : -25);
            check.due("P10 byte " + b + " in a word", faultBehind("tur", b), b == 'n' ? -14 : -13);
        }
    }

    private static int faultBehind(String text, int b) {
        CoalTurns x = new CoalTurns();
        Check.feed(x, text);
        x.feed(0xABCD00L | b, 1);
        return x.order(0);
    }

    private static CoalTurns tapeOf(int bytes) {
        CoalTurns x = new CoalTurns();
        for (int rest = bytes; rest > 0; rest -= 8) x.feed(0, Math.min(rest, 8));
        return x;
    }

    private static void hundredAndTwentyBytesAtMost() {
        for (int n = 1; n <= 8; n++) {
            check.due("P10 " + n + " bytes fill it", tapeOf(120 - n).feed(0, n), 120);
            CoalTurns x = tapeOf(121 - n);
            check.due("P10 " + n + " bytes are one too many", x.feed(0, n), FULL);
            check.due("P10 not one of them came", x.count(7), 121 - n);
        }
        CoalTurns x = tapeOf(120);
        check.due("P10 FULL", x.feed(0, 1), FULL);
        check.due("P10 BAD is told ahead of FULL", x.feed(0, 9), BAD);
        check.due("P10 BAD is told ahead of FULL", x.feed(0, 0), BAD);
        check.due("P10 120 bytes", x.count(7), 120);
        x.order(0);
        check.due("P10 it can be filled again", x.feed(0, 8), 8);
    }

    // ---- promise 11: order

    private static void theTapeIsEmptyBehindAnOrder() {
        CoalTurns x = new CoalTurns();
        check.due("P11 its number", Check.order(x, "turn ask;sell 1", 0), 0);
        check.due("P11 empty then", x.count(7), 0);
        check.due("P11 a FAULT", Check.order(x, "turn ask;sell 1x", 0), -25);
        check.due("P11 empty then, too", x.count(7), 0);
        check.due("P11 no ORDER of it", x.count(2), 1);
        check.due("P11 the next number", Check.order(x, "turn lot;sell 2", 0), 1);
        Check.feed(x, "turn ask;sell 3");
        check.due("P11 BAD", x.order(1000), BAD);
        check.due("P11 THE TAPE stays behind a refusal", x.count(7), 15);
        check.due("P11 and is read then", x.order(999), 2);
        check.due("P11 MANY", x.many(2, 0), 3);
    }

    private static void theDayOfAnOrder() {
        check.range("P11 day", 0, 999, BAD, day -> Check.order(new CoalTurns(), "turn ask;sell 1", day));
        CoalTurns x = new CoalTurns();
        check.due("P11 BAD is told, not the FAULT", x.order(-1), BAD);
        Check.feed(x, "x");
        check.due("P11 BAD is told, not the FAULT", x.order(1000), BAD);
        check.due("P11 THE TAPE stays", x.count(7), 1);
    }

    private static void eightOrdersAtMost() {
        CoalTurns x = new CoalTurns();
        for (int i = 0; i < 8; i++) {
            check.due("P11 no such ORDER yet", x.many(i, 0), NONE);
            check.due("P11 order " + i, Check.order(x, i % 2 == 0 ? "turn ask;sell 7" : "turn lot;sell 8", i), i);
            check.due("P11 count", x.count(2), i + 1);
        }
        check.due("P11 the 9th", Check.order(x, "turn ask;sell 1", 0), FULL);
        check.due("P11 THE TAPE stays", x.count(7), 15);
        check.due("P11 BAD is told ahead of FULL", x.order(-1), BAD);
        check.due("P11 there are 8", x.count(2), 8);
        check.due("P11 there is no 9th", x.many(8, 0), NONE);
        for (int i = 0; i < 8; i++) check.due("P11 those that were", x.many(i, 0), 7 + i % 2);
        check.due("P11 nor is it in force", x.force(0), 0);
        x.feed(120, 1);
        check.due("P11 a faulty TAPE is FULL, too", x.order(0), FULL);
        check.due("P11 and stays", x.count(7), 16);
    }

    // ---- rule 2: what is an ORDER, and the FAULT

    private static void taken(String text) {
        check.due("R2 '" + text + "'", Check.order(new CoalTurns(), text, 0), 0);
    }

    /** The FAULT is where the sign ^ stands, which is not itself on THE TAPE. */
    private static void fault(String marked) {
        int place = marked.indexOf('^');
        String text = marked.substring(0, place) + marked.substring(place + 1);
        CoalTurns x = new CoalTurns();
        check.due("R2 '" + marked + "'", Check.order(x, text, 0), -10 - place);
        check.due("R2 '" + marked + "': THE TAPE", x.count(7), 0);
        check.due("R2 '" + marked + "': ORDERS", x.count(2), 0);
    }

    private static void theEmptyTape() {
        fault("^");
        CoalTurns x = new CoalTurns();
        check.due("R2 the end of an empty TAPE", x.order(0), -10);
        check.due("R2 and again", x.order(999), -10);
    }

    private static void tapesThatEndTooEarly() {
        String[] texts = {"turn entry;sell 12 at <345,67 at >8,9 at <10,1", "turn ask;sell 1", "turn load;sell 1", "turn lot;sell 1"};
        for (String text : texts) {
            for (int end = 0; end < text.length(); end++) {
                String part = text.substring(0, end);
                boolean whole = part.matches(".*;sell [0-9]{1,2}") || part.matches(".*,[0-9]{1,2}");
                if (whole) taken(part);
                else fault(part + "^");
            }
            taken(text);
        }
    }

    private static void everyKeyAndNoOther() {
        String[] keys = {"entry", "ask", "load", "lot"};
        for (String key : keys) {
            taken("turn " + key + ";sell 1");
            fault("turn " + key + "^x;sell 1");
            fault("turn " + key + "^s;sell 1");
        }
        fault("turn ^;sell 1");
        fault("turn entr^;sell 1");
        fault("turn as^;sell 1");
        fault("turn loa^;sell 1");
        fault("turn lo^;sell 1");
        fault("turn lo^st;sell 1");
        fault("turn l^at;sell 1");
        fault("turn lot^ad;sell 1");
        fault("turn e^sk;sell 1");
        fault("turn a^ntry;sell 1");
        fault("turn ^bid;sell 1");
        fault("turn ^Ask;sell 1");
        fault("turn ask^,load;sell 1");
    }

    private static void oneOrTwoDigitsOfMany() {
        fault("turn ask;sell ^");
        fault("turn ask;sell ^ at <1,1");
        fault("turn ask;sell ^,1");
        fault("turn ask;sell ^x");
        fault("turn ask;sell ^-1");
        String[] numbers = {"0", "9", "00", "01", "10", "99"};
        for (String n : numbers) {
            CoalTurns x = new CoalTurns();
            check.due("R2 last N " + n, Check.order(x, "turn ask;sell " + n, 0), 0);
            check.due("R2 MANY", x.many(0, 5), Integer.parseInt(n));
            check.due("R2 N of a PART " + n, Check.order(x, "turn ask;sell " + n + " at <10,50", 0), 1);
            check.due("R2 MANY", x.many(1, 5), Integer.parseInt(n));
        }
        fault("turn ask;sell 10^0");
        fault("turn ask;sell 00^1");
        fault("turn ask;sell 10^0 at <1,1");
        fault("turn ask;sell 1 at <1,10^0");
        fault("turn ask;sell 1 at <1,10^0 at <1,1");
        fault("turn ask;sell 1^x");
    }

    private static void oneToThreeDigitsOfAPrice() {
        fault("turn ask;sell 1 at <^,1");
        fault("turn ask;sell 1 at >^,1");
        fault("turn ask;sell 1 at <^-5,1");
        int[] prices = {0, 9, 10, 99, 100, 999};
        for (int p : prices) {
            CoalTurns x = new CoalTurns();
            check.due("R2 P " + p, Check.order(x, "turn ask;sell 1 at >" + p + ",2", 0), 0);
            check.due("R2 not greater than " + p, x.many(0, p), 2);
            check.due("R2 greater than " + p, x.many(0, p + 1), 1);
        }
        taken("turn ask;sell 1 at <000,1");
        taken("turn ask;sell 1 at <007,1");
        fault("turn ask;sell 1 at <100^0,1");
        fault("turn ask;sell 1 at >000^0,1");
        fault("turn ask;sell 1 at <1^x,1");
        fault("turn ask;sell 1 at <1^;1");
        fault("turn ask;sell 1 at <1^ ,1");
        fault("turn ask;sell 1 at <10^");
        fault("turn ask;sell 1 at <100^");
    }

    private static void threePartsAtMost() {
        taken("turn ask;sell 1");
        taken("turn ask;sell 1 at <1,2");
        taken("turn ask;sell 1 at <1,2 at >2,3");
        taken("turn ask;sell 1 at <1,2 at >2,3 at <3,4");
        fault("turn ask;sell 1 at <1,2 at >2,3 at <3,4^ at >4,5");
        fault("turn ask;sell 1 at <1,2 at >2,3 at <3,44^ at >4,5");
        fault("turn ask;sell 1 at <1,2 at >2,3 at <3,4^,5");
        fault("turn ask;sell 1^,2");
        fault("turn ask;sell 1 at <1,^");
        fault("turn ask;sell 1 at <1,^,2");
        fault("turn ask;sell 1 at <1,2 at >2,3 at <3,^");
        fault("turn ask;sell 1 at <1,2^;");
        fault("turn ask;sell 1 at ^=1,2");
        fault("turn ask;sell 1 at ^1,2");
        fault("turn ask;sell 1 at <^=1,2");
        fault("turn ask;sell 1 at <^<1,2");
    }

    private static void oneBlankAndNoOther() {
        fault("^ turn ask;sell 1");
        fault("turn^ask;sell 1");
        fault("turn ^ ask;sell 1");
        fault("turn ask^ ;sell 1");
        fault("turn ask;^ sell 1");
        fault("turn ask;sell^1");
        fault("turn ask;sell ^ 1");
        fault("turn ask;sell 1 ^");
        fault("turn ask;sell 1 ^ at <1,2");
        fault("turn ask;sell 1^at <1,2");
        fault("turn ask;sell 1 at^<1,2");
        fault("turn ask;sell 1 at ^ <1,2");
        fault("turn ask;sell 1 at <^ 1,2");
        fault("turn ask;sell 1 at <1^ ,2");
        fault("turn ask;sell 1 at <1,^ 2");
        fault("turn ask;sell 1 at <1,2 ^");
        fault("turn ask;sell 11 ^1");
        fault("turn^\task;sell 1");
        fault("turn^" + (char) 160 + "ask;sell 1");
    }

    private static void noOtherSigns() {
        fault("^Turn ask;sell 1");
        fault("^TURN ask;sell 1");
        fault("t^Urn ask;sell 1");
        fault("turn ask^:sell 1");
        fault("turn ask;^;sell 1");
        fault("turn ask;^Sell 1");
        fault("turn ask;sel^ 1");
        fault("turn ask;sell 1 ^on <1,2");
        fault("turn ask;sell 1 a^s <1,2");
        fault("turn ask;sell 1^.");
        fault("turn ask;sell 1^\n");
        fault("turn ask;sell 1^" + (char) 0);
        fault("turn ask;sell 1^turn ask;sell 1");
        fault("^" + (char) (128 + 't') + "urn ask;sell 1");
    }

    private static void shortestAndLongest() {
        String shortest = "turn ask;sell 1";
        String longest = "turn entry;sell 99 at <999,99 at <999,99 at <999,99";
        check.due("15 bytes", shortest.length(), 15);
        check.due("51 bytes", longest.length(), 51);
        taken(shortest);
        taken(longest);
        fault(longest + "^9");
        fault(longest + "^ ");
        fault(longest + "^" + "x".repeat(120 - longest.length()));
        fault("^" + "x".repeat(120));
        fault("turn ask;sell 1^" + "x".repeat(105));
    }

    // ---- promise 12: force

    private static void noneIsInForce() {
        CoalTurns x = new CoalTurns();
        int[] days = {Integer.MIN_VALUE, -1, 0, 999, Integer.MAX_VALUE};
        for (int day : days) check.due("P12 without an ORDER, day " + day, x.force(day), NONE);
        Check.order(x, "turn ask;sell 1", 0);
        check.due("P12 the day is below 0", x.force(-1), NONE);
        check.due("P12 the day is below 0", x.force(Integer.MIN_VALUE), NONE);
        check.due("P12 day 0", x.force(0), 0);
    }

    private static void inForceFromADayOn() {
        int[] froms = {0, 1, 5, 998, 999};
        for (int from : froms) {
            CoalTurns x = new CoalTurns();
            Check.order(x, "turn ask;sell 1", from);
            check.due("P12 the day before " + from, x.force(from - 1), NONE);
            check.due("P12 day " + from, x.force(from), 0);
            check.due("P12 the day behind " + from, x.force(from + 1), 0);
            check.due("P12 ever after", x.force(Integer.MAX_VALUE), 0);
        }
    }

    private static void ofOneDayTheGreatestNumber() {
        CoalTurns x = new CoalTurns();
        for (int i = 0; i < 8; i++) {
            Check.order(x, "turn ask;sell 1", 7);
            check.due("R2 of one day the greatest number", x.force(7), i);
            check.due("R2 ever after", x.force(8), i);
            check.due("R2 not before", x.force(6), NONE);
        }
    }

    private static void theLaterDayNotTheLaterNumber() {
        CoalTurns x = new CoalTurns();
        Check.order(x, "turn ask;sell 1", 10);
        Check.order(x, "turn ask;sell 1", 4);
        check.due("R2 not yet", x.force(3), NONE);
        check.due("R2 from 4 on", x.force(4), 1);
        check.due("R2 till a later one is", x.force(9), 1);
        check.due("R2 the later one", x.force(10), 0);
        check.due("R2 on and on", x.force(11), 0);
        Check.order(x, "turn ask;sell 1", 10);
        check.due("R2 of one day", x.force(10), 2);
        check.due("R2 as before", x.force(9), 1);
    }

    private static void withoutOneEntryAndNinetyNine() {
        CoalTurns x = new CoalTurns();
        for (int s = 0; s < 20; s++) x.ship(s % 2, 0, 20 - s, 30 - s, 0, s < 10 ? 9 : 1);
        x.day(1, 0, 1);
        x.day(9, 0, 1);
        for (int i = 0; i < 20; i++) check.due("R2 without one all, by entry", x.turn(i), (i + 10) % 20);
        check.due("R2 no more", x.turn(20), NONE);
        Check.order(x, "turn ask;sell 1", 3);
        check.due("R2 before the first is in force", x.turn(19), 9);
        x.day(0, 0, 1);
        check.due("R2 when it is", x.turn(0), 19);
        check.due("R2 one alone", x.turn(1), NONE);
    }

    // ---- promise 13: many

    private static void manyOfWhichOrder() {
        CoalTurns x = new CoalTurns();
        check.due("P13 without ORDERS", x.many(0, 0), NONE);
        check.due("P13 -1 is no ORDER", x.many(-1, 0), NONE);
        Check.order(x, "turn ask;sell 7", 500);
        check.range("P13 ORDER", 0, 0, NONE, order -> x.many(order, 0));
        check.due("P13 in force or not", x.many(0, 0), 7);
        check.due("P13 NONE is told ahead of BAD", x.many(1, -1), NONE);
        check.due("P13 PRICE -1", x.many(0, -1), BAD);
        check.due("P13 the least PRICE", x.many(0, Integer.MIN_VALUE), BAD);
        check.due("P13 PRICE 0", x.many(0, 0), 7);
        check.due("P13 the greatest PRICE", x.many(0, Integer.MAX_VALUE), 7);
    }

    private static void manyAre(String text, int... priceAndMany) {
        CoalTurns x = new CoalTurns();
        Check.order(x, text, 0);
        for (int i = 0; i < priceAndMany.length; i += 2) {
            check.due("R2 '" + text + "' with " + priceAndMany[i], x.many(0, priceAndMany[i]), priceAndMany[i + 1]);
        }
    }

    private static void manyAroundAPrice() {
        manyAre("turn ask;sell 2 at <30,3", 29, 2, 30, 3, 31, 3);
        manyAre("turn ask;sell 2 at >30,3", 29, 3, 30, 3, 31, 2);
        manyAre("turn ask;sell 2 at <30,4 at >55,3", 29, 2, 30, 3, 55, 3, 56, 4);
        manyAre("turn ask;sell 2 at <30,4 at >29,3", 29, 2, 30, 4);
        manyAre("turn ask;sell 2 at <30,4 at >30,3", 29, 2, 30, 3, 31, 4);
    }

    private static void manyOfTheFirstPart() {
        manyAre("turn ask;sell 1 at <50,2 at <60,3 at <70,4", 49, 1, 50, 2, 59, 2, 60, 3, 69, 3, 70, 4);
        manyAre("turn ask;sell 1 at <70,2 at <60,3 at <50,4", 49, 1, 50, 1, 69, 1, 70, 4);
        manyAre("turn ask;sell 1 at >50,2 at >40,3 at >30,4", 51, 1, 50, 2, 41, 2, 40, 3, 31, 3, 30, 4);
        manyAre("turn ask;sell 0 at <50,99", 49, 0, 50, 99);
        manyAre("turn ask;sell 99 at <50,0", 49, 99, 50, 0);
    }

    private static void manyOfTheEndsOfP() {
        manyAre("turn ask;sell 1 at <0,2", 0, 2, 1, 2);
        manyAre("turn ask;sell 1 at <1,2", 0, 1, 1, 2);
        manyAre("turn ask;sell 1 at >0,2", 0, 2, 1, 1);
        manyAre("turn ask;sell 1 at <999,2", 998, 1, 999, 2, 1000, 2);
        manyAre("turn ask;sell 1 at >999,2", 998, 2, 999, 2, 1000, 1, Integer.MAX_VALUE, 1);
    }

    // ---- promise 14: turn

    private static void turnIs(String name, CoalTurns x, int... ships) {
        for (int i = 0; i < ships.length; i++) check.due(name + ": turn(" + i + ")", x.turn(i), ships[i]);
        check.due(name + ": behind the last", x.turn(ships.length), NONE);
    }

    private static void placesInTurn() {
        CoalTurns x = new CoalTurns();
        for (int s = 0; s < 20; s++) Check.near(x, s % 3, 0, 10, 10);
        check.due("P14 all AT SEA", x.turn(0), NONE);
        x.day(1, 0, 1);
        check.range("P14 place", 0, 19, NONE, x::turn);
        CoalTurns one = new CoalTurns();
        Check.near(one, PLAIN, 0, 10, 10);
        one.day(1, 0, 1);
        check.range("P14 place of one", 0, 0, NONE, one::turn);
    }

    private static void manyOfThoseInTurn() {
        for (int many = 0; many <= 5; many++) {
            CoalTurns x = new CoalTurns();
            for (int s = 0; s < 4; s++) Check.near(x, s % 2, 0, 10, 40 - s);
            Check.order(x, "turn ask;sell " + many, 0);
            x.day(1, 0, 1);
            for (int i = 0; i < 5; i++) check.due("R3 the first " + many, x.turn(i), i < Math.min(many, 4) ? 3 - i : NONE);
        }
        CoalTurns gas = new CoalTurns();
        Check.near(gas, GAS, 0, 10, 1);
        Check.near(gas, PLAIN, 0, 10, 9);
        Check.near(gas, GAS, 0, 5, 1);
        Check.near(gas, LIGHT, 0, 10, 8);
        Check.order(gas, "turn ask;sell 0", 1);
        Check.order(gas, "turn load;sell 1", 2);
        Check.order(gas, "turn ask;sell 2", 3);
        gas.day(1, 0, 1);
        turnIs("R3 GAS ones alone, by numbers", gas, 0, 2);
        gas.day(1, 0, 1);
        turnIs("R3 behind one", gas, 1, 0, 2);
        gas.day(1, 0, 1);
        turnIs("R3 behind two", gas, 3, 1, 0, 2);
    }

    private static void whoIsNotInTurn() {
        CoalTurns x = new CoalTurns();
        x.ship(PLAIN, 0, 10, 1, 0, 60);
        Check.near(x, BONDED, 0, 10, 1);
        Check.near(x, BONDED, 0, 10, 1);
        Check.near(x, PLAIN, 1, 10, 1);
        Check.near(x, GAS, 1, 10, 1);
        Check.near(x, PLAIN, 0, 10, 1);
        Check.near(x, GAS, 0, 10, 1);
        Check.near(x, LIGHT, 2, 10, 1);
        Check.near(x, GAS, 2, 10, 1);
        x.buyer(0, 1, 20, 1);
        x.day(1, 0, 0);
        x.goOn(1);
        x.wreck(5, 0);
        x.wreck(6, 10);
        turnIs("R3 neither AT SEA, BONDED, GONE ON, SOLD nor a WRECK", x, 7, 8);
    }

    private static void likeOnesByNumber() {
        String[] keys = {"entry", "ask", "load"};
        for (String key : keys) {
            CoalTurns x = new CoalTurns();
            for (int s = 0; s < 6; s++) Check.near(x, s % 2, 0, 10, 10);
            Check.order(x, "turn " + key + ";sell 5", 0);
            x.day(1, 0, 1);
            turnIs("R2 of like ones the lesser number, by " + key, x, 0, 1, 2, 3, 4);
        }
    }

    private static void entryByDay() {
        CoalTurns x = new CoalTurns();
        x.ship(PLAIN, 0, 1, 1, 0, 3);
        x.ship(PLAIN, 0, 2, 2, 0, 2);
        x.ship(PLAIN, 0, 3, 3, 0, 1);
        x.ship(LIGHT, 0, 4, 4, 0, 4);
        for (int d = 0; d < 3; d++) x.day(1, 0, 1);
        turnIs("R2 by the day on which they ENTERED", x, 2, 1, 3, 0);
    }

    private static void loadByWhatIsLeft() {
        CoalTurns x = new CoalTurns();
        Check.near(x, PLAIN, 0, 30, 10);
        Check.near(x, PLAIN, 1, 20, 10);
        x.buyer(0, 0, 11, 10);
        Check.order(x, "turn load;sell 9", 0);
        x.day(1, 0, 1);
        turnIs("R2 20 ahead of 30", x, 1, 0);
        x.day(1, 0, 0);
        turnIs("R2 19 that are LEFT ahead of 20", x, 0, 1);
    }

    private static void lotByTheDay() {
        CoalTurns x = new CoalTurns();
        for (int s = 0; s < 4; s++) Check.near(x, PLAIN, 0, 10, 10);
        Check.order(x, "turn lot;sell 9", 0);
        x.day(1, 0, 1);
        turnIs("R2 day 1: 5 12 19 3", x, 3, 0, 1, 2);
        x.day(1, 0, 1);
        turnIs("R2 day 2: 10 17 1 8", x, 2, 3, 0, 1);
        x.day(1, 0, 1);
        turnIs("R2 day 3: 15 22 6 13", x, 2, 3, 0, 1);
        x.day(1, 0, 1);
        turnIs("R2 day 4: 20 4 11 18", x, 1, 2, 3, 0);
        x.day(1, 0, 1);
        turnIs("R2 day 5: 2 9 16 0", x, 3, 0, 1, 2);
    }

    private static void lateOnesBehindAllOthers() {
        String[] keys = {"entry", "ask", "load", "lot"};
        for (String key : keys) {
            CoalTurns x = new CoalTurns();
            Check.near(x, PLAIN, 0, 1, 1);
            x.ship(PLAIN, 0, 400, 99, 0, 9);
            Check.near(x, GAS, 0, 400, 99);
            Check.order(x, "turn " + key + ";sell 9", 0);
            x.day(1, 0, 0);
            x.day(0, 0, 0);
            x.day(9, 0, 1);
            check.due("R2 LATE", x.about(0, 7), 2);
            turnIs("R2 behind all others by " + key + ", ahead of GAS", x, 1, 0, 2);
        }
        CoalTurns x = new CoalTurns();
        for (int s = 0; s < 3; s++) Check.near(x, PLAIN, 0, 10, 50 - s);
        Check.order(x, "turn ask;sell 2", 0);
        x.day(1, 0, 0);
        x.day(1, 0, 0);
        turnIs("R2 one that is not LATE, and the first of the LATE ones", x, 0, 2);
    }

    private static void turnByTheOrderOfToday() {
        CoalTurns x = new CoalTurns();
        Check.near(x, PLAIN, 0, 10, 50);
        Check.near(x, PLAIN, 0, 20, 40);
        Check.order(x, "turn ask;sell 9", 2);
        Check.order(x, "turn load;sell 9", 3);
        x.day(1, 0, 1);
        turnIs("P14 TODAY is 1: none in force", x, 0, 1);
        x.day(1, 0, 1);
        turnIs("P14 TODAY is 2", x, 1, 0);
        x.day(1, 0, 1);
        turnIs("P14 TODAY is 3", x, 0, 1);
    }

    private static void turnByThePrice() {
        CoalTurns x = new CoalTurns();
        Check.near(x, PLAIN, 0, 10, 29);
        for (int s = 1; s < 5; s++) Check.near(x, PLAIN, 1, 10, 1);
        x.buyer(0, 0, 5, 29);
        Check.order(x, "turn entry;sell 1 at <30,3 at >30,2", 0);
        x.day(1, 0, 1);
        turnIs("P14 THE PRICE is 30", x, 0, 1);
        x.day(1, 0, 0);
        turnIs("P14 THE PRICE is 29", x, 0);
        x.ask(0, 31);
        x.want(0, 5, 31);
        x.day(1, 0, 0);
        turnIs("P14 THE PRICE is 31, one is SOLD", x, 1, 2, 3);
    }
}
