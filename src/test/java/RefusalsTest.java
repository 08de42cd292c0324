import java.util.function.Supplier;
import java.util.function.ToIntFunction;

/**
 * Rule 5: every refusal of every call, of several the first one told, and that nothing that can be seen has changed
 * behind it. The same for calls that only ask.
 */
public final class RefusalsTest {
    private static final int NONE = CoalTurns.NONE, BAD = CoalTurns.BAD, STATE = CoalTurns.STATE, FULL = CoalTurns.FULL;
    private static final int LEAST = Integer.MIN_VALUE, MOST = Integer.MAX_VALUE;
    private static final Check check = new Check();

    private final Supplier<CoalTurns> scene;
    private final String name;

    private RefusalsTest(String name, Supplier<CoalTurns> scene) {
        this.name = name;
        this.scene = scene;
    }

    public static void main(String[] args) {
        theScenesAreAsMeant();
        RefusalsTest busy = new RefusalsTest("busy", RefusalsTest::busy);
        RefusalsTest full = new RefusalsTest("full", RefusalsTest::full);
        RefusalsTest fresh = new RefusalsTest("new", CoalTurns::new);
        busy.ships();
        busy.buyers();
        busy.orders();
        busy.days();
        busy.weights();
        busy.wards();
        busy.questions();
        full.fullOnes();
        full.questions();
        fresh.nothingThere();
        fresh.questions();
        check.end();
    }

    /** Ships in every state, a BARGAIN on the latest day, ORDERS, and an ORDER on THE TAPE that is not read yet. */
    private static CoalTurns busy() {
        CoalTurns x = new CoalTurns();
        x.ship(0, 0, 10, 20, 0, 60);
        x.ship(1, 0, 40, 21, 1, 6);
        x.ship(0, 1, 10, 22, 2, 1);
        x.ship(0, 2, 10, 23, 3, 1);
        x.ship(3, 0, 10, 24, 4, 1);
        x.ship(0, 3, 10, 25, 5, 1);
        x.ship(2, 1, 30, 26, 0, 1);
        x.ship(3, 2, 30, 27, 0, 1);
        x.buyer(0, 2, 10, 99);
        x.buyer(5, 0, 15, 50);
        x.store(0, 30);
        x.store(5, 3);
        for (int w = 0; w < 6; w++) x.burn(w, 1, 2 + w);
        Check.order(x, "turn ask;sell 2 at <30,4 at >55,3", 0);
        x.day(1, 1, 0);
        x.wreck(5, 4);
        x.goOn(4);
        x.day(1, 2, 0);
        x.day(1, 1, 0);
        Check.order(x, "turn load;sell 5", 4);
        x.measure(19, 29);
        Check.feed(x, "turn lot;sell 7");
        return x;
    }

    /** No place for another ship, buyer, order or byte. */
    private static CoalTurns full() {
        CoalTurns x = new CoalTurns();
        for (int s = 0; s < 20; s++) x.ship(s % 4, s % 2, 10 + s, 10 + s, s % 6, 1 + s / 4);
        for (int b = 0; b < 10; b++) x.buyer(b % 6, b % 2, 20 * b, 10 + 3 * b);
        for (int i = 0; i < 8; i++) Check.order(x, "turn ask;sell " + (2 + i), i);
        x.day(3, 0, 0);
        for (int i = 0; i < 15; i++) x.feed(0x7475726E2061736BL, 8);
        return x;
    }

    private static void theScenesAreAsMeant() {
        CoalTurns x = busy();
        int[] states = {0, 1, 2, 3, 4, 5, 1, 1};
        for (int s = 0; s < 8; s++) check.due("busy: state of " + s, x.about(s, 7), states[s]);
        check.due("busy: BARGAINS", x.count(5), 1);
        check.due("busy: what is LEFT", x.about(1, 6), 25);
        check.due("busy: THE TAPE", x.count(7), 15);
        CoalTurns y = full();
        int[] counts = {20, 10, 8, 1};
        for (int what = 0; what < 4; what++) check.due("full: count " + what, y.count(what), counts[what]);
        check.due("full: THE TAPE", y.count(7), 120);
        check.isTrue("full: BARGAINS", y.count(5) > 0);
    }

    private void idle(String call, int due, ToIntFunction<CoalTurns> made) {
        check.idle(name + ": " + call, scene, due, made);
    }

    private void ships() {
        int[][] bads = {{-1, 0, 1, 1, 0, 1}, {4, 0, 1, 1, 0, 1}, {0, -1, 1, 1, 0, 1}, {0, 4, 1, 1, 0, 1}, {0, 0, 0, 1, 0, 1},
            {0, 0, 401, 1, 0, 1}, {0, 0, 1, 0, 0, 1}, {0, 0, 1, 100, 0, 1}, {0, 0, 1, 1, -1, 1}, {0, 0, 1, 1, 6, 1},
            {0, 0, 1, 1, 0, 0}, {0, 0, 1, 1, 0, 61}, {MOST, MOST, MOST, MOST, MOST, MOST}};
        for (int[] a : bads) idle("ship", BAD, x -> x.ship(a[0], a[1], a[2], a[3], a[4], a[5]));
        int[] noShips = {-1, 8, LEAST, MOST};
        for (int s : noShips) {
            idle("ask of " + s, NONE, x -> x.ask(s, 0));
            idle("wreck of " + s, NONE, x -> x.wreck(s, -1));
            idle("goOn of " + s, NONE, x -> x.goOn(s));
        }
        int[] noAsks = {0, 100, LEAST, MOST};
        for (int a : noAsks) idle("ask " + a, BAD, x -> x.ask(1, a));
        int[] left = {10, 25, 10, 0, 10, 6, 30, 30};
        for (int i = 0; i < 8; i++) {
            int s = i;
            idle("wreck, more than is LEFT of " + s, BAD, x -> x.wreck(s, left[s] + 1));
            idle("wreck, less than none of " + s, BAD, x -> x.wreck(s, -1));
            if (s >= 3 && s <= 5) idle("wreck, state of " + s, STATE, x -> x.wreck(s, 0));
            if (s != 7) idle("goOn, state of " + s, STATE, x -> x.goOn(s));
        }
    }

    private void buyers() {
        int[] noWards = {-1, 6, LEAST, MOST};
        for (int w : noWards) {
            idle("buyer of " + w, NONE, x -> x.buyer(w, -1, -1, 0));
            idle("burn of " + w, NONE, x -> x.burn(w, -1, -1));
            idle("store of " + w, NONE, x -> x.store(w, -1));
        }
        int[][] bads = {{-1, 0, 1}, {4, 0, 1}, {0, -1, 1}, {0, 2001, 1}, {0, 0, 0}, {0, 0, 121}};
        for (int[] a : bads) idle("buyer", BAD, x -> x.buyer(0, a[0], a[1], a[2]));
        int[] noBuyers = {-1, 2, LEAST, MOST};
        for (int b : noBuyers) idle("want of " + b, NONE, x -> x.want(b, -1, 0));
        int[][] badWants = {{-1, 1}, {2001, 1}, {0, 0}, {0, 121}, {LEAST, LEAST}, {MOST, MOST}};
        for (int[] a : badWants) idle("want", BAD, x -> x.want(1, a[0], a[1]));
        int[][] badBurns = {{-1, 0}, {5, 0}, {0, -1}, {0, 501}, {LEAST, LEAST}, {MOST, MOST}};
        for (int[] a : badBurns) idle("burn", BAD, x -> x.burn(5, a[0], a[1]));
        int[] badStores = {-1, 10000, LEAST, MOST};
        for (int more : badStores) idle("store", BAD, x -> x.store(5, more));
    }

    private void orders() {
        int[] badBytes = {0, 9, -1, LEAST, MOST};
        for (int n : badBytes) idle("feed of " + n, BAD, x -> x.feed(-1L, n));
        int[] badDays = {-1, 1000, LEAST, MOST};
        for (int day : badDays) idle("order from " + day, BAD, x -> x.order(day));
        int[] early = {-1, LEAST};
        for (int day : early) idle("force on " + day, NONE, x -> x.force(day));
        int[] noOrders = {-1, 2, LEAST, MOST};
        for (int order : noOrders) idle("many of " + order, NONE, x -> x.many(order, -1));
        idle("many with -1", BAD, x -> x.many(0, -1));
        idle("many with the least", BAD, x -> x.many(0, LEAST));
        int[] noPlaces = {-1, 3, LEAST, MOST};
        for (int i : noPlaces) idle("turn of " + i, NONE, x -> x.turn(i));
    }

    private void days() {
        int[][] bads = {{-1, 0, 0}, {10, 0, 0}, {0, -1, 0}, {0, 5, 0}, {0, 0, -1}, {0, 0, 2}, {LEAST, LEAST, LEAST}, {MOST, MOST, MOST}};
        for (int[] a : bads) idle("day", BAD, x -> x.day(a[0], a[1], a[2]));
        int[][] noFacts = {{-1, 0}, {8, 0}, {0, -1}, {0, 13}, {LEAST, LEAST}, {MOST, MOST}};
        for (int[] a : noFacts) idle("about", NONE, x -> x.about(a[0], a[1]));
        int[][] noBargains = {{-1, 0}, {1, 0}, {0, -1}, {0, 4}, {LEAST, LEAST}, {MOST, MOST}};
        for (int[] a : noBargains) idle("bargain", NONE, x -> x.bargain(a[0], a[1]));
        int[] badGangs = {-1, 0, 4, LEAST, MOST};
        for (int gangs : badGangs) idle("clear with " + gangs, BAD, x -> x.clear(gangs));
        int[] notHeld = {-1, 2, 3, 4, 5, 7, 8, LEAST, MOST};
        for (int s : notHeld) idle("held of " + s, NONE, x -> x.held(s));
    }

    private void weights() {
        int[][] bads = {{0, 5}, {6, 5}, {1, 100}, {LEAST, MOST}, {MOST, LEAST}};
        for (int[] a : bads) idle("measure", BAD, x -> x.measure(a[0], a[1]));
        int[][] nones = {{-1, 0}, {8, 0}, {0, -1}, {0, 3}, {LEAST, 0}, {MOST, MOST}};
        for (int[] a : nones) idle("weighed", NONE, x -> x.weighed(a[0], -1, -1, a[1]));
        int[][] badDraws = {{-1, -24}, {11, 240}, {2, 37}, {2, 59}, {0, 1}, {0, -1}, {MOST, MOST}, {LEAST, LEAST}};
        for (int[] a : badDraws) idle("weighed", BAD, x -> x.weighed(0, a[0], a[1], 0));
    }

    private void wards() {
        int[][] noFacts = {{-1, 0}, {6, 0}, {0, -1}, {0, 4}, {LEAST, LEAST}, {MOST, MOST}};
        for (int[] a : noFacts) idle("ward", NONE, x -> x.ward(a[0], a[1]));
        int[] noWards = {-1, 6, LEAST, MOST};
        for (int w : noWards) idle("lasts of " + w, NONE, x -> x.lasts(w, -1));
        int[] badColds = {-1, 5, LEAST, MOST};
        for (int cold : badColds) idle("lasts with " + cold, BAD, x -> x.lasts(0, cold));
        int[][] badTrials = {{0, 0, 0, 0}, {31, 0, 0, 0}, {1, -1, 0, 0}, {1, 10, 0, 0}, {1, 0, -1, 0}, {1, 0, 5, 0},
            {1, 0, 0, -1}, {1, 0, 0, 3}, {LEAST, LEAST, LEAST, LEAST}, {MOST, MOST, MOST, MOST}};
        for (int[] a : badTrials) idle("tried", BAD, x -> x.tried(9, a[0], a[1], a[2], a[3]));
        int[] noOrders = {-2, 2, LEAST, MOST};
        for (int order : noOrders) idle("tried of " + order, NONE, x -> x.tried(order, 30, 9, 4, 2));
        int[] noCounts = {-1, 8, LEAST, MOST};
        for (int what : noCounts) idle("count of " + what, NONE, x -> x.count(what));
        int[] noFactors = {-1, 6, LEAST, MOST};
        for (int f : noFactors) idle("factor of " + f, NONE, x -> x.factor(f));
    }

    private void fullOnes() {
        idle("ship", FULL, x -> x.ship(0, 0, 1, 1, 0, 1));
        idle("ship, BAD ahead of FULL", BAD, x -> x.ship(0, 0, 1, 1, 0, 61));
        idle("buyer", FULL, x -> x.buyer(0, 0, 2000, 120));
        idle("buyer, BAD ahead of FULL", BAD, x -> x.buyer(0, 0, 2000, 121));
        idle("buyer, NONE ahead of FULL", NONE, x -> x.buyer(6, 0, 2000, 120));
        idle("feed", FULL, x -> x.feed(0, 1));
        idle("feed", FULL, x -> x.feed(0, 8));
        idle("feed, BAD ahead of FULL", BAD, x -> x.feed(0, 9));
        idle("order", FULL, x -> x.order(0));
        idle("order, BAD ahead of FULL", BAD, x -> x.order(1000));
    }

    private void nothingThere() {
        idle("ask", NONE, x -> x.ask(0, 1));
        idle("wreck", NONE, x -> x.wreck(0, 0));
        idle("goOn", NONE, x -> x.goOn(0));
        idle("want", NONE, x -> x.want(0, 0, 1));
        idle("force", NONE, x -> x.force(0));
        idle("many", NONE, x -> x.many(0, 0));
        idle("turn", NONE, x -> x.turn(0));
        idle("about", NONE, x -> x.about(0, 0));
        idle("bargain", NONE, x -> x.bargain(0, 0));
        idle("held", NONE, x -> x.held(0));
        idle("weighed", NONE, x -> x.weighed(0, 0, 0, 0));
        idle("tried", NONE, x -> x.tried(0, 1, 0, 0, 0));
        idle("an empty TAPE", -10, x -> x.order(0));
    }

    /** Calls that only ask: what they answer is tested elsewhere, here that all is as before then. */
    private void questions() {
        asks("turn", x -> x.turn(0));
        asks("force", x -> x.force(999));
        asks("many", x -> x.many(0, 30));
        asks("about", x -> x.about(1, 6));
        asks("bargain", x -> x.bargain(0, 2));
        asks("clear", x -> x.clear(2));
        asks("held of one AT SEA", x -> x.held(0));
        asks("held of one ENTERED", x -> x.held(6));
        asks("weighed", x -> x.weighed(0, 1, 24, 2));
        asks("ward", x -> x.ward(0, 0));
        asks("lasts", x -> x.lasts(0, 1));
        asks("tried, as they are", x -> x.tried(-1, 30, 9, 1, 0));
        asks("tried, another ORDER", x -> x.tried(0, 30, 9, 1, 2));
        asks("count", x -> x.count(6));
        asks("factor", x -> x.factor(1));
    }

    private void asks(String call, ToIntFunction<CoalTurns> made) {
        idle(call, made.applyAsInt(scene.get()), made);
    }
}
