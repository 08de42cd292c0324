import java.util.regex.Matcher;
import java.util.regex.Pattern;

/** Promises 10 to 14: feed, order, force, many, turn. */
public final class OrdersTest {
    private static final int NONE = CoalTurns.NONE, BAD = CoalTurns.BAD, FULL = CoalTurns.FULL;
    private static final Check check = new Check();
    /** THE ORDER's form once more, as a pattern whose prefixes can be asked for. */
    private static final Pattern FORM =
        Pattern.compile("turn (entry|ask|load|lot);sell ([0-9]{1,2} at [<>][0-9]{1,3},){0,3}[0-9]{1,2}");

    public static void main(String[] args) {
        bytesComeHighestFirst();
        tapeIsFull();
        ordersAreRead();
        faultsAreTold();
        faultsOfEveryPlace();
        nothingStaysOfEarlierTapes();
        ordersAreRefused();
        laterOrdersAreInForce();
        manyByPrice();
        turnByKeys();
        turnByLot();
        turnByLotOfTwenty();
        lateOnesStandBehind();
        gasOnesStandBehindMany();
        check.end();
    }

    private static void bytesComeHighestFirst() {
        CoalTurns x = new CoalTurns();
        check.due("n 0", x.feed(0, 0), BAD);
        check.due("n 9", x.feed(0, 9), BAD);
        check.due("n -1", x.feed(0, -1), BAD);
        check.due("turn", x.feed(0x7F7475726E20L, 5), 5);
        check.due("ask", x.feed(0x61736BL, 3), 8);
        check.due(";sell 7", x.feed(0x3B73656C6C2037L, 7), 15);
        check.due("count 7", x.count(7), 15);
        check.due("order", x.order(0), 0);
        check.due("many", x.many(0, 0), 7);
        check.due("count 7", x.count(7), 0);
        check.due("8 bytes", x.feed(-1L, 8), 8);
        check.due("a byte of 255", x.order(0), -10);
    }

    private static void tapeIsFull() {
        CoalTurns x = new CoalTurns();
        for (int i = 1; i <= 14; i++) check.due("feed", x.feed(0, 8), 8 * i);
        check.due("7 more", x.feed(0, 7), 119);
        check.due("FULL", x.feed(0, 2), FULL);
        check.due("changed nothing", x.count(7), 119);
        check.due("BAD ahead of FULL", x.feed(0, 9), BAD);
        check.due("1 more", x.feed(0, 1), 120);
        check.due("FULL", x.feed(0, 1), FULL);
        check.due("order", x.order(0), -10);
        check.due("empty", x.count(7), 0);
    }

    private static void ordersAreRead() {
        CoalTurns x = new CoalTurns();
        check.due("entry", Check.order(x, "turn entry;sell 0", 0), 0);
        check.due("ask", Check.order(x, "turn ask;sell 00", 0), 1);
        check.due("load", Check.order(x, "turn load;sell 1 at <1,99", 0), 2);
        check.due("lot", Check.order(x, "turn lot;sell 12 at >345,6 at <078,90 at <9,12", 999), 3);
        check.due("count", x.count(2), 4);
        check.due("N 0", x.many(0, 5), 0);
        check.due("N 00", x.many(1, 5), 0);
        check.due("first PART", x.many(2, 0), 1);
        check.due("last N", x.many(2, 1), 99);
        check.due("above", x.many(3, 346), 12);
        check.due("not above", x.many(3, 345), 12);
        check.due("P 078", x.many(3, 77), 6);
        check.due("first of two that fit", x.many(3, 8), 6);
        check.due("none fits", x.many(3, 78), 12);
    }

    private static void faultsAreTold() {
        String[] texts = {"", "x", "turn", "turn  ask", "turn l", "turn lo", "turn lox", "turn lota", "turn enter;",
            "turn ask sell 1", "turn ask;sell", "turn ask;sell ", "turn ask;sell x", "turn ask;sell 1 ",
            "turn ask;sell 1,2", "turn ask;sell 1 at 5", "turn ask;sell 1 at <", "turn ask;sell 1 at <1",
            "turn ask;sell 1 at <1234,5", "turn ask;sell 1 at <1,", "turn ask;sell 1 at < 1,5", "turn ask;sell 123",
            "turn ask;sell 1 at <1,2 at >2,3 at <3,4 at", "Turn ask;sell 1", "turn ask;sell 1\n"};
        for (String text : texts) faultOf(text);
        CoalTurns x = new CoalTurns();
        check.due("empty", x.order(0), -10);
        check.due("too early", Check.order(x, "turn ask;sell 1 at <1,", 0), -32);
        check.due("empty then", x.count(7), 0);
        check.due("no ORDER", x.count(2), 0);
    }

    private static void faultsOfEveryPlace() {
        String[] goods = {"turn entry;sell 2 at <30,4 at >55,3", "turn lot;sell 12 at >345,6 at <78,90 at <9,12",
            "turn load;sell 9", "turn ask;sell 99"};
        String signs = " abdelnorstuy;,<>0129x";
        for (String good : goods) {
            for (int at = 0; at <= good.length(); at++) {
                faultOf(good.substring(0, at));
                for (int c = 0; c < signs.length(); c++) {
                    faultOf(good.substring(0, at) + signs.charAt(c) + good.substring(at));
                    if (at < good.length()) faultOf(good.substring(0, at) + signs.charAt(c) + good.substring(at + 1));
                }
            }
        }
    }

    private static void nothingStaysOfEarlierTapes() {
        CoalTurns x = new CoalTurns();
        Check.near(x, 0, 0, 10, 30);
        x.day(1, 0, 1);
        Check.near(x, 0, 0, 10, 20);
        x.day(1, 0, 1);
        check.due("faulty", Check.order(x, "turn ask;sell 12 at <999,34 at <99,x", 0), -45);
        check.due("shorter", Check.order(x, "turn entry;sell 2", 0), 0);
        check.due("no PARTS of the faulty one", x.many(0, 5), 2);
        turnIs("nor its KEY", x, 0, 1);
        check.due("longer", Check.order(x, "turn ask;sell 12", 0), 1);
        check.due("shorter", Check.order(x, "turn ask;sell 1", 0), 2);
        check.due("no digits of the longer one", x.many(2, 5), 1);
        check.due("ends too early", Check.order(x, "turn a", 0), -16);
    }

    private static void faultOf(String text) {
        int due = FORM.matcher(text).matches() ? 0 : -10 - fault(text);
        check.due("order of '" + text + "'", Check.order(new CoalTurns(), text, 0), due);
    }

    private static int fault(String text) {
        for (int end = 1; end <= text.length(); end++) {
            Matcher matcher = FORM.matcher(text.substring(0, end));
            if (!matcher.matches() && !matcher.hitEnd()) return end - 1;
        }
        return text.length();
    }

    private static void ordersAreRefused() {
        CoalTurns x = new CoalTurns();
        Check.feed(x, "turn ask;sell 1");
        check.due("day -1", x.order(-1), BAD);
        check.due("day 1000", x.order(1000), BAD);
        check.due("THE TAPE stays", x.count(7), 15);
        check.due("day 999", x.order(999), 0);
        for (int i = 1; i < 8; i++) check.due("order " + i, Check.order(x, "turn ask;sell 1", 0), i);
        check.due("order 8", Check.order(x, "turn ask;sell 1", 0), FULL);
        check.due("THE TAPE stays", x.count(7), 15);
        check.due("BAD ahead of FULL", x.order(1000), BAD);
        check.due("count", x.count(2), 8);
    }

    private static void laterOrdersAreInForce() {
        CoalTurns x = new CoalTurns();
        int[] days = {5, 3, 7, 5, 0};
        for (int i = 0; i < days.length; i++) Check.order(x, "turn ask;sell 1", days[i]);
        int[] due = {4, 4, 4, 1, 1, 3, 3, 2, 2};
        for (int day = 0; day < due.length; day++) check.due("force(" + day + ")", x.force(day), due[day]);
        check.due("force(1000)", x.force(1000), 2);
        check.due("force(most)", x.force(Integer.MAX_VALUE), 2);
        check.due("force(-1)", x.force(-1), NONE);
        check.due("force(least)", x.force(Integer.MIN_VALUE), NONE);
    }

    private static void manyByPrice() {
        CoalTurns x = new CoalTurns();
        Check.order(x, "turn ask;sell 2 at <30,4 at >55,3", 0);
        check.due("29", x.many(0, 29), 2);
        check.due("30", x.many(0, 30), 3);
        check.due("55", x.many(0, 55), 3);
        check.due("56", x.many(0, 56), 4);
        check.due("most", x.many(0, Integer.MAX_VALUE), 4);
        check.due("0", x.many(0, 0), 2);
        check.due("-1", x.many(0, -1), BAD);
        check.due("no such ORDER", x.many(1, -1), NONE);
        check.due("nor this", x.many(-1, 5), NONE);
    }

    private static void turnIs(String name, CoalTurns x, int... ships) {
        for (int i = 0; i < ships.length; i++) check.due(name + ": turn(" + i + ")", x.turn(i), ships[i]);
        check.due(name + ": turn(" + ships.length + ")", x.turn(ships.length), NONE);
        check.due(name + ": turn(-1)", x.turn(-1), NONE);
    }

    private static void turnByKeys() {
        CoalTurns x = new CoalTurns();
        x.ship(0, 0, 30, 20, 0, 2);
        x.ship(1, 0, 10, 30, 0, 2);
        x.ship(0, 0, 30, 10, 0, 1);
        x.ship(0, 0, 20, 20, 0, 9);
        x.ship(3, 0, 20, 20, 0, 1);
        turnIs("AT SEA", x);
        x.day(1, 0, 1);
        turnIs("a day's wind", x, 1, 2);
        x.day(1, 0, 1);
        turnIs("without an ORDER", x, 1, 2, 0);
        Check.order(x, "turn ask;sell 9", 2);
        turnIs("ask", x, 2, 0, 1);
        x.day(9, 0, 1);
        turnIs("of like ones", x, 2, 0, 3, 1);
        Check.order(x, "turn load;sell 9", 3);
        turnIs("load", x, 1, 3, 0, 2);
        Check.order(x, "turn entry;sell 3 at <30,2 at >30,1", 3);
        turnIs("MANY", x, 1);
        Check.order(x, "turn entry;sell 3 at <31,2 at >30,1", 3);
        turnIs("MANY by THE PRICE", x, 1, 2, 0);
        Check.order(x, "turn entry;sell 0", 3);
        turnIs("none", x);
        Check.order(x, "turn ask;sell 1", 4);
        turnIs("not yet in force", x);
        x.day(0, 0, 1);
        turnIs("in force", x, 2);
    }

    private static void turnByLot() {
        CoalTurns x = new CoalTurns();
        for (int s = 0; s < 5; s++) Check.near(x, 0, 0, 10, 10);
        Check.order(x, "turn lot;sell 99", 0);
        x.day(1, 0, 1);
        // day 1: 5 12 19 3 10
        turnIs("lot of day 1", x, 3, 0, 4, 1, 2);
        x.day(1, 0, 1);
        // day 2: 10 17 1 8 15
        turnIs("lot of day 2", x, 2, 3, 0, 4, 1);
    }

    private static void turnByLotOfTwenty() {
        CoalTurns x = new CoalTurns();
        for (int s = 0; s < 20; s++) Check.near(x, s % 2, 0, 10, 10);
        Check.order(x, "turn lot;sell 99", 0);
        for (int day = 1; day <= 40; day++) {
            x.day(1, 0, 1);
            int at = 0;
            for (int lot = 0; lot < 23; lot++) {
                for (int s = 0; s < 20; s++) {
                    if ((7 * s + 5 * day - lot) % 23 == 0) check.due("lot of day " + day, x.turn(at++), s);
                }
            }
            check.due("all 20", at, 20);
            check.due("turn(20)", x.turn(20), NONE);
        }
    }

    private static void lateOnesStandBehind() {
        CoalTurns x = new CoalTurns();
        Check.near(x, 0, 0, 10, 10);
        Check.near(x, 0, 0, 10, 5);
        Check.order(x, "turn ask;sell 99", 0);
        x.day(1, 0, 0);
        x.day(1, 0, 0);
        check.due("LATE", x.about(0, 7), 2);
        check.due("LATE", x.about(1, 7), 2);
        Check.near(x, 0, 0, 10, 50);
        x.day(1, 0, 1);
        turnIs("LATE ones by KEY behind all others", x, 2, 1, 0);
    }

    private static void gasOnesStandBehindMany() {
        CoalTurns x = new CoalTurns();
        Check.near(x, 2, 0, 10, 9);
        Check.near(x, 0, 0, 10, 5);
        Check.near(x, 2, 0, 10, 1);
        Check.near(x, 0, 0, 10, 4);
        x.ship(2, 0, 10, 1, 0, 2);
        Check.order(x, "turn ask;sell 1", 0);
        x.day(1, 0, 1);
        turnIs("GAS by numbers", x, 3, 0, 2);
    }
}
