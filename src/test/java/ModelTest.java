import java.util.Random;

/** All promises: drawn calls, the program's answers beside the model's (the seed is fixed: each time the same). */
public final class ModelTest {
    private static final Check check = new Check();
    private static final String[] ORDERS = {"turn entry;sell 2", "turn ask;sell 2 at <30,4 at >55,3", "turn load;sell 1",
        "turn lot;sell 3", "turn ask;sell 1 at <20,2 at <30,3 at <40,0", "turn lot;sell 0 at >60,1 at >50,9 at >40,5",
        "turn load;sell 99", "turn lot;sell 1 at <", "turn ask;sell 123", "turn lo"};

    private final Random random;
    private final CoalTurns x = new CoalTurns();
    private final Model m = new Model();
    private final boolean wild;

    private ModelTest(long seed) {
        random = new Random(seed);
        wild = seed % 4 == 0;
    }

    public static void main(String[] args) {
        for (long seed = 1; seed <= 1500; seed++) new ModelTest(seed).run(seed);
        check.end();
    }

    private void run(long seed) {
        for (int call = 0; call < 400; call++) step("seed " + seed + ", call " + call + ": ");
        sweep("seed " + seed + ", at the end: ");
    }

    /** A number from low to high, now and then one beside them. */
    private int draw(int low, int high) {
        if (random.nextInt(wild ? 8 : 150) > 0) return low + random.nextInt(high - low + 1);
        int[] wrongs = {low - 1, high + 1, Integer.MIN_VALUE, Integer.MAX_VALUE};
        return wrongs[random.nextInt(4)];
    }

    private void step(String at) {
        int what = random.nextInt(100);
        if (what < 12) ships(at);
        else if (what < 26) buyers(at);
        else if (what < 34) orders(at);
        else if (what < 60) days(at);
        else asks(at);
    }

    private void ships(String at) {
        int s = draw(0, 19);
        int a = draw(1, 99);
        switch (random.nextInt(8)) {
            case 0 -> check.due(at + "ask", x.ask(s, a), m.ask(s, a));
            case 1 -> {
                int saved = random.nextInt(6) > 0 ? -1 : draw(0, 99);
                check.due(at + "wreck", x.wreck(s, saved), m.wreck(s, saved));
            }
            case 2 -> check.due(at + "goOn", x.goOn(s), m.goOn(s));
            default -> {
                int[] d = {draw(0, 3), draw(0, 3) / 2, draw(1, 400), a, draw(0, 5), draw(1, 60)};
                check.due(at + "ship", x.ship(d[0], d[1], d[2], d[3], d[4], d[5]), m.ship(d));
            }
        }
    }

    private void buyers(String at) {
        int w = draw(0, 5);
        int c = draw(0, 4);
        int b = draw(1, 120);
        int n = draw(0, random.nextInt(3) == 0 ? 2000 : 90);
        switch (random.nextInt(5)) {
            case 0 -> check.due(at + "buyer", x.buyer(w, c / 2, n, b), m.buyer(w, c / 2, n, b));
            case 1, 2 -> check.due(at + "want", x.want(w + c, n, b), m.want(w + c, n, b));
            case 3 -> check.due(at + "burn", x.burn(w, c, n), m.burn(w, c, n));
            default -> check.due(at + "store", x.store(w, n), m.store(w, n));
        }
    }

    private void orders(String at) {
        if (random.nextInt(4) == 0) {
            long bytes = random.nextLong();
            int n = draw(1, 8);
            check.due(at + "feed", x.feed(bytes, n), m.feed(bytes, n));
        }
        if (random.nextInt(2) == 0) return;
        String text = ORDERS[random.nextInt(ORDERS.length)];
        for (int i = 0; i < text.length(); i++) {
            check.due(at + "feed", x.feed(text.charAt(i), 1), m.feed(text.charAt(i), 1));
        }
        int day = draw(0, random.nextInt(5) == 0 ? 999 : 120);
        check.due(at + "order", x.order(day), m.order(day));
    }

    private void days(String at) {
        int wind = draw(0, 9);
        int cold = draw(0, 4);
        int frost = draw(0, 1) & (random.nextInt(3) == 0 ? -1 : ~1);
        check.due(at + "day", x.day(wind, cold, frost), m.day(wind, cold, frost));
        for (int i = 0; i <= m.count(5); i++) {
            for (int what = 0; what < 4; what++) check.due(at + "bargain", x.bargain(i, what), m.bargain(i, what));
        }
    }

    private void asks(String at) {
        int s = draw(0, 19);
        int what = draw(0, 2);
        int cold = draw(0, 4);
        switch (random.nextInt(10)) {
            case 0 -> check.due(at + "turn", x.turn(s), m.turn(s));
            case 1 -> check.due(at + "held", x.held(s), m.held(s));
            case 2 -> check.due(at + "clear", x.clear(what + 1), m.clear(what + 1));
            case 3 -> check.due(at + "force", x.force(s * 7), m.force(s * 7));
            case 4 -> check.due(at + "many", x.many(s / 2, s * 5), m.many(s / 2, s * 5));
            case 5 -> {
                int a = draw(1, 40);
                int b = draw(10, 99);
                if (random.nextInt(5) == 0) check.due(at + "measure", x.measure(a, b), m.measure(a, b));
                int k = draw(0, 20);
                int weight = k >= 0 && k <= 400 ? draw(k * 15, k * 30) : draw(0, 999);
                check.due(at + "weighed", x.weighed(s, k, weight, what), m.weighed(s, k, weight, what));
            }
            case 6 -> check.due(at + "lasts", x.lasts(s % 7, cold), m.lasts(s % 7, cold));
            case 7 -> sweep(at);
            default -> {
                int n = draw(1, 30);
                int wind = draw(0, 9);
                int order = draw(-1, 7);
                check.due(at + "tried", x.tried(order, n, wind, cold, what), m.tried(order, n, wind, cold, what));
            }
        }
    }

    private void sweep(String at) {
        for (int what = -1; what <= 13; what++) {
            check.due(at + "count", x.count(what), m.count(what));
            check.due(at + "factor", x.factor(what), m.factor(what));
            for (int s = -1; s <= 20; s++) check.due(at + "about " + s + " " + what, x.about(s, what), m.about(s, what));
            for (int w = -1; w <= 6; w++) check.due(at + "ward " + w + " " + what, x.ward(w, what), m.ward(w, what));
        }
        for (int i = -1; i <= 20; i++) {
            check.due(at + "turn", x.turn(i), m.turn(i));
            check.due(at + "held", x.held(i), m.held(i));
        }
        for (int gangs = 0; gangs <= 4; gangs++) check.due(at + "clear", x.clear(gangs), m.clear(gangs));
    }
}
