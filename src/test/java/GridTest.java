import java.util.ArrayList;
import java.util.List;
import java.util.function.Consumer;

/**
 * All calls with every mix of the numbers around their edges, in several states, beside the model: so it is seen which
 * of several refusals is the first, and that no number makes a call fail.
 */
public final class GridTest {
    private static final int LEAST = Integer.MIN_VALUE, MOST = Integer.MAX_VALUE;
    private static final Check check = new Check();

    /** The program and the model, which have been called alike. */
    private static final class Pair {
        final CoalTurns x = new CoalTurns();
        final Model m = new Model();

        void text(String text) {
            for (int i = 0; i < text.length(); i++) {
                x.feed(text.charAt(i), 1);
                m.feed(text.charAt(i), 1);
            }
        }

        int[] call(String name, int[] a) {
            switch (name) {
                case "ship": return both(x.ship(a[0], a[1], a[2], a[3], a[4], a[5]), m.ship(a[0], a[1], a[2], a[3], a[4], a[5]));
                case "ask": return both(x.ask(a[0], a[1]), m.ask(a[0], a[1]));
                case "wreck": return both(x.wreck(a[0], a[1]), m.wreck(a[0], a[1]));
                case "goOn": return both(x.goOn(a[0]), m.goOn(a[0]));
                case "buyer": return both(x.buyer(a[0], a[1], a[2], a[3]), m.buyer(a[0], a[1], a[2], a[3]));
                case "want": return both(x.want(a[0], a[1], a[2]), m.want(a[0], a[1], a[2]));
                case "burn": return both(x.burn(a[0], a[1], a[2]), m.burn(a[0], a[1], a[2]));
                case "store": return both(x.store(a[0], a[1]), m.store(a[0], a[1]));
                case "feed": return both(x.feed(a[0], a[1]), m.feed(a[0], a[1]));
                case "order": return both(x.order(a[0]), m.order(a[0]));
                case "day": return both(x.day(a[0], a[1], a[2]), m.day(a[0], a[1], a[2]));
                case "measure": return both(x.measure(a[0], a[1]), m.measure(a[0], a[1]));
                default: return question(name, a);
            }
        }

        int[] question(String name, int[] a) {
            switch (name) {
                case "force": return both(x.force(a[0]), m.force(a[0]));
                case "many": return both(x.many(a[0], a[1]), m.many(a[0], a[1]));
                case "turn": return both(x.turn(a[0]), m.turn(a[0]));
                case "about": return both(x.about(a[0], a[1]), m.about(a[0], a[1]));
                case "bargain": return both(x.bargain(a[0], a[1]), m.bargain(a[0], a[1]));
                case "clear": return both(x.clear(a[0]), m.clear(a[0]));
                case "held": return both(x.held(a[0]), m.held(a[0]));
                case "weighed": return both(x.weighed(a[0], a[1], a[2], a[3]), m.weighed(a[0], a[1], a[2], a[3]));
                case "ward": return both(x.ward(a[0], a[1]), m.ward(a[0], a[1]));
                case "lasts": return both(x.lasts(a[0], a[1]), m.lasts(a[0], a[1]));
                case "tried": return both(x.tried(a[0], a[1], a[2], a[3], a[4]), m.tried(a[0], a[1], a[2], a[3], a[4]));
                case "count": return both(x.count(a[0]), m.count(a[0]));
                case "factor": return both(x.factor(a[0]), m.factor(a[0]));
                default: throw new IllegalArgumentException(name);
            }
        }

        private static int[] both(int x, int m) {
            return new int[] {x, m};
        }
    }

    public static void main(String[] args) {
        List<Consumer<Pair>> scenes = List.of(p -> { }, GridTest::few, GridTest::atMarket, GridTest::full);
        for (Consumer<Pair> scene : scenes) {
            changes(scene);
            questions(scene);
        }
        check.end();
    }

    /** Calls that change something: each mix on a pair of its own, what was seen compared behind it. */
    private static void changes(Consumer<Pair> scene) {
        int[] kinds = {-1, 0, 3, 4};
        grid("ship", scene, kinds, kinds, new int[] {0, 1, 400, 401}, new int[] {0, 1, 99, 100}, new int[] {-1, 0, 5, 6}, new int[] {0, 1, 60, 61});
        grid("ask", scene, places(19), ends(1, 99));
        grid("wreck", scene, places(19), new int[] {LEAST, -1, 0, 1, 6, 10, 11, MOST});
        grid("goOn", scene, places(19));
        grid("buyer", scene, new int[] {-1, 0, 5, 6}, kinds, new int[] {-1, 0, 2000, 2001}, new int[] {0, 1, 120, 121});
        grid("want", scene, places(9), ends(0, 2000), ends(1, 120));
        grid("burn", scene, ends(0, 5), ends(0, 4), ends(0, 500));
        grid("store", scene, ends(0, 5), ends(0, 9999));
        grid("feed", scene, new int[] {LEAST, -1, 0, 't', MOST}, ends(1, 8));
        grid("order", scene, ends(0, 999));
        grid("day", scene, ends(0, 9), ends(0, 4), ends(0, 1));
        grid("measure", scene, ends(1, 99), ends(1, 99));
    }

    private static void questions(Consumer<Pair> scene) {
        ask("force", scene, new int[] {LEAST, -1, 0, 1, 2, 3, 4, 998, 999, 1000, MOST});
        ask("many", scene, places(7), new int[] {LEAST, -1, 0, 29, 30, 31, 54, 55, 56, MOST});
        ask("turn", scene, places(19));
        ask("about", scene, places(19), places(12));
        ask("bargain", scene, places(30), ends(0, 3));
        ask("clear", scene, new int[] {LEAST, -1, 0, 1, 2, 3, 4, MOST});
        ask("held", scene, places(19));
        ask("weighed", scene, places(2), new int[] {LEAST, -1, 0, 1, 2, 10, 11, MOST}, new int[] {LEAST, -1, 0, 1, 19, 20, 28, 29, 200, 239, 240, 280, 281, MOST}, places(2));
        ask("ward", scene, places(5), places(3));
        ask("lasts", scene, places(5), places(4));
        ask("tried", scene, places(7), ends(1, 30), ends(0, 9), ends(0, 4), ends(0, 2));
        ask("count", scene, places(7));
        ask("factor", scene, places(5));
    }

    private static int[] ends(int low, int high) {
        return new int[] {LEAST, low - 1, low, high, high + 1, MOST};
    }

    /** All places up to one, and those beside them. */
    private static int[] places(int last) {
        int[] all = new int[last + 6];
        for (int i = 0; i < last + 4; i++) all[i] = i - 2;
        all[last + 4] = LEAST;
        all[last + 5] = MOST;
        return all;
    }

    private static List<int[]> mixes(int[][] sets) {
        List<int[]> mixes = new ArrayList<>();
        mixes.add(new int[0]);
        for (int[] set : sets) {
            List<int[]> longer = new ArrayList<>();
            for (int[] mix : mixes) {
                for (int number : set) {
                    int[] next = java.util.Arrays.copyOf(mix, mix.length + 1);
                    next[mix.length] = number;
                    longer.add(next);
                }
            }
            mixes = longer;
        }
        return mixes;
    }

    private static String text(String name, int[] a) {
        return name + java.util.Arrays.toString(a);
    }

    private static void grid(String name, Consumer<Pair> scene, int[]... sets) {
        for (int[] a : mixes(sets)) {
            Pair p = new Pair();
            scene.accept(p);
            int[] answers = p.call(name, a);
            check.due(text(name, a), answers[0], answers[1]);
            for (int what = 0; what < 8; what++) check.due(text(name, a) + ", then count", p.x.count(what), p.m.count(what));
            for (int s = 0; s < p.m.count(0); s++) {
                for (int what = 0; what < 13; what++) check.due(text(name, a) + ", then about", p.x.about(s, what), p.m.about(s, what));
            }
            for (int w = 0; w < 6; w++) check.due(text(name, a) + ", then ward", p.x.ward(w, 0), p.m.ward(w, 0));
            check.due(text(name, a) + ", then day", p.x.day(9, 4, 0), p.m.day(9, 4, 0));
            check.due(text(name, a) + ", then order", p.x.order(0), p.m.order(0));
        }
    }

    private static void ask(String name, Consumer<Pair> scene, int[]... sets) {
        Pair p = new Pair();
        scene.accept(p);
        for (int[] a : mixes(sets)) {
            int[] answers = p.call(name, a);
            check.due(text(name, a), answers[0], answers[1]);
        }
    }

    private static void all(Pair p, String name, int[]... rows) {
        for (int[] a : rows) p.call(name, a);
    }

    private static void few(Pair p) {
        all(p, "ship", new int[][] {{0, 0, 10, 20, 0, 3}, {3, 1, 10, 20, 5, 1}, {2, 0, 10, 20, 5, 2}});
        all(p, "buyer", new int[][] {{0, 0, 6, 30}, {5, 0, 7, 20}});
        p.text("turn ask;sell 2 at <30,4 at >55,3");
        all(p, "order", new int[] {2});
        p.text("turn lot;sell");
    }

    private static void atMarket(Pair p) {
        few(p);
        all(p, "burn", new int[][] {{0, 1, 4}, {5, 1, 500}});
        all(p, "ship", new int[][] {{0, 0, 1, 31, 1, 1}, {1, 3, 6, 9, 1, 2}, {0, 0, 10, 9, 1, 60}, {3, 0, 10, 9, 1, 1}, {0, 1, 10, 9, 1, 1}});
        all(p, "day", new int[][] {{1, 1, 0}, {1, 1, 0}});
        all(p, "wreck", new int[][] {{7, 3}});
        all(p, "goOn", new int[][] {{6}});
        all(p, "day", new int[][] {{1, 1, 0}});
        p.text(" 9");
    }

    private static void full(Pair p) {
        for (int s = 0; s < 20; s++) all(p, "ship", new int[] {s % 4, s % 3, 10 + s, 10 + s, s % 6, 1 + s / 4});
        for (int b = 0; b < 10; b++) all(p, "buyer", new int[] {b % 6, b % 3, 20 * b, 10 + 3 * b});
        for (int i = 0; i < 8; i++) {
            p.text(i % 2 == 0 ? "turn ask;sell 4" : "turn lot;sell 7 at <30,9");
            all(p, "order", new int[] {i / 2});
        }
        all(p, "day", new int[][] {{3, 0, 0}, {0, 0, 0}});
        p.text("x".repeat(120));
    }
}
