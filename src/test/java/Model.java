import java.util.ArrayList;
import java.util.Comparator;
import java.util.LinkedHashMap;
import java.util.List;
import java.util.Map;
import java.util.regex.Matcher;
import java.util.regex.Pattern;
import java.util.stream.Collectors;
import java.util.stream.IntStream;

/** The document once more, written in another way with the whole library: wasteful, and plain. */
final class Model {
    private static final Pattern FORM =
        Pattern.compile("turn (entry|ask|load|lot);sell (([0-9]{1,2} at [<>][0-9]{1,3},){0,3})([0-9]{1,2})");

    record Bargain(int ship, int buyer, int measures, int price) { }

    record Order(String key, String parts, int last, int day) { }

    static final class World {
        List<int[]> ships = new ArrayList<>();
        List<int[]> buyers = new ArrayList<>();
        int[][] wards = new int[6][4];
        int[][] burns = new int[6][5];
        int today = 0;
        int price = 30;

        World copy() {
            World w = new World();
            ships.forEach(s -> w.ships.add(s.clone()));
            buyers.forEach(b -> w.buyers.add(b.clone()));
            for (int i = 0; i < 6; i++) {
                w.wards[i] = wards[i].clone();
                w.burns[i] = burns[i].clone();
            }
            w.today = today;
            w.price = price;
            return w;
        }
    }

    private World world = new World();
    private World then = null;
    private List<Integer> turnThen = null;
    private List<Bargain> bargains = new ArrayList<>();
    private final List<Order> orders = new ArrayList<>();
    private String tape = "";
    private int least = 20, most = 28;

    private static boolean in(int x, int a, int b) {
        return a <= x && x <= b;
    }

    private static final int[] LOW = {0, 0, 1, 1, 0, 1};
    private static final int[] HIGH = {3, 3, 400, 99, 5, 60};

    int ship(int... a) {
        for (int i = 0; i < 6; i++) if (!in(a[i], LOW[i], HIGH[i])) return -2;
        if (world.ships.size() == 20) return -4;
        world.ships.add(new int[] {a[0], a[1], a[2], a[3], a[4], a[5], a[2], 0, -1, 0, 0, 0, 0});
        return world.ships.size() - 1;
    }

    private int[] shipAt(int s) {
        return in(s, 0, world.ships.size() - 1) ? world.ships.get(s) : null;
    }

    int ask(int s, int a) {
        int[] ship = shipAt(s);
        if (ship == null) return -1;
        if (!in(a, 1, 99)) return -2;
        int was = ship[3];
        ship[3] = a;
        return was;
    }

    int wreck(int s, int saved) {
        int[] ship = shipAt(s);
        if (ship == null) return -1;
        if (!in(saved, 0, ship[6])) return -2;
        if (ship[7] > 2) return -3;
        ship[6] -= saved;
        ship[7] = 5;
        int dues = saved * (ship[0] == 2 ? 1 : 2);
        ship[12] += dues;
        return dues;
    }

    int goOn(int s) {
        int[] ship = shipAt(s);
        if (ship == null) return -1;
        if (ship[0] != 3 || ship[7] != 1) return -3;
        ship[7] = 4;
        ship[12] -= 2 * ship[2];
        return 2 * ship[2];
    }

    int buyer(int ward, int sort, int want, int bid) {
        if (!in(ward, 0, 5)) return -1;
        if (!in(sort, 0, 3) || !in(want, 0, 2000) || !in(bid, 1, 120)) return -2;
        if (world.buyers.size() == 10) return -4;
        world.buyers.add(new int[] {ward, sort, want, bid});
        return world.buyers.size() - 1;
    }

    int want(int b, int want, int bid) {
        if (!in(b, 0, world.buyers.size() - 1)) return -1;
        if (!in(want, 0, 2000) || !in(bid, 1, 120)) return -2;
        int[] buyer = world.buyers.get(b);
        int was = buyer[2];
        buyer[2] = want;
        buyer[3] = bid;
        return was;
    }

    int burn(int ward, int cold, int amount) {
        if (!in(ward, 0, 5)) return -1;
        if (!in(cold, 0, 4) || !in(amount, 0, 500)) return -2;
        int was = world.burns[ward][cold];
        world.burns[ward][cold] = amount;
        return was;
    }

    int store(int ward, int more) {
        if (!in(ward, 0, 5)) return -1;
        if (!in(more, 0, 9999)) return -2;
        return world.wards[ward][0] += more;
    }

    int feed(long w, int n) {
        if (!in(n, 1, 8)) return -2;
        if (tape.length() + n > 120) return -4;
        for (int i = n - 1; i >= 0; i--) tape += (char) ((w >> (8 * i)) & 0xFF);
        return tape.length();
    }

    int order(int day) {
        if (!in(day, 0, 999)) return -2;
        if (orders.size() == 8) return -4;
        String text = tape;
        tape = "";
        Matcher m = FORM.matcher(text);
        if (!m.matches()) return -10 - fault(text);
        orders.add(new Order(m.group(1), m.group(2), Integer.parseInt(m.group(4)), day));
        return orders.size() - 1;
    }

    private static int fault(String text) {
        for (int end = 1; end <= text.length(); end++) {
            Matcher m = FORM.matcher(text.substring(0, end));
            if (!m.matches() && !m.hitEnd()) return end - 1;
        }
        return text.length();
    }

    int force(int day) {
        return IntStream.range(0, orders.size()).boxed().filter(i -> orders.get(i).day() <= day)
            .max(Comparator.comparing((Integer i) -> orders.get(i).day()).thenComparing(i -> i)).orElse(-1);
    }

    private Order inForce(int day) {
        int number = force(day);
        return number < 0 ? new Order("entry", "", 99, 0) : orders.get(number);
    }

    private static int sellers(Order order, int price) {
        for (String part : order.parts().split(",")) {
            if (part.isEmpty()) continue;
            String[] words = part.split(" at ");
            int limit = Integer.parseInt(words[1].substring(1));
            if (words[1].charAt(0) == '<' ? price < limit : price > limit) return Integer.parseInt(words[0]);
        }
        return order.last();
    }

    int many(int order, int price) {
        if (!in(order, 0, orders.size() - 1)) return -1;
        return price < 0 ? -2 : sellers(orders.get(order), price);
    }

    private static List<Integer> inTurn(World w, Order order) {
        Comparator<Integer> byKey = Comparator.comparing(s -> {
            int[] ship = w.ships.get(s);
            return switch (order.key()) {
                case "ask" -> ship[3];
                case "load" -> ship[6];
                case "lot" -> (7 * s + 5 * w.today) % 23;
                default -> ship[8];
            };
        });
        Comparator<Integer> byLate = Comparator.comparing(s -> w.ships.get(s)[7] == 2);
        List<Integer> turn = IntStream.range(0, w.ships.size()).boxed()
            .filter(s -> w.ships.get(s)[0] < 2 && in(w.ships.get(s)[7], 1, 2))
            .sorted(byLate.thenComparing(byKey).thenComparing(s -> s))
            .limit(sellers(order, w.price)).collect(Collectors.toCollection(ArrayList::new));
        for (int s = 0; s < w.ships.size(); s++) if (w.ships.get(s)[0] == 2 && w.ships.get(s)[7] == 1) turn.add(s);
        return turn;
    }

    int turn(int i) {
        List<Integer> turn = inTurn(world, inForce(world.today));
        return in(i, 0, turn.size() - 1) ? turn.get(i) : -1;
    }

    private static void wind(World w, int wind) {
        for (int[] ship : w.ships) {
            if (ship[7] != 0) continue;
            ship[5] -= ship[0] == 1 ? 2 * wind : wind;
            if (ship[5] > 0) continue;
            ship[5] = 0;
            ship[7] = 1;
            ship[8] = w.today;
            if (ship[0] == 3) ship[12] += 3 * ship[2];
        }
    }

    private static List<Bargain> market(World w, List<Integer> turn) {
        List<Bargain> made = new ArrayList<>();
        for (int s : turn) {
            int[] ship = w.ships.get(s);
            int before = made.size();
            IntStream.range(0, w.buyers.size()).boxed()
                .sorted(Comparator.comparing((Integer b) -> -w.buyers.get(b)[3]).thenComparing(b -> b))
                .filter(b -> w.buyers.get(b)[1] == ship[1] && w.buyers.get(b)[3] >= ship[3])
                .forEach(b -> {
                    int[] buyer = w.buyers.get(b);
                    int measures = Math.min(ship[6], buyer[2]);
                    if (measures == 0) return;
                    int price = (ship[3] + buyer[3]) / 2;
                    ship[6] -= measures;
                    buyer[2] -= measures;
                    ship[10] += measures;
                    ship[11] += measures * price;
                    ship[12] += measures * (ship[0] == 2 ? 1 : 2);
                    w.wards[buyer[0]][0] += measures;
                    w.wards[buyer[0]][3] += measures;
                    made.add(new Bargain(s, b, measures, price));
                });
            if (made.size() == before) ship[9]++;
            if (made.size() == before && ship[0] < 2 && ship[9] > 1) ship[7] = 2;
            if (ship[6] == 0) ship[7] = 3;
        }
        int all = measures(made);
        if (all > 0) w.price = made.stream().mapToInt(b -> b.measures() * b.price()).sum() / all;
        return made;
    }

    private static int measures(List<Bargain> made) {
        return made.stream().mapToInt(Bargain::measures).sum();
    }

    private static void burnAll(World w, int cold) {
        for (int i = 0; i < 6; i++) {
            int burnt = Math.min(w.wards[i][0], w.burns[i][cold]);
            if (burnt < w.burns[i][cold]) w.wards[i][1]++;
            w.wards[i][0] -= burnt;
            w.wards[i][2] += burnt;
        }
        w.today++;
    }

    int day(int wind, int cold, int frost) {
        if (!in(wind, 0, 9) || !in(cold, 0, 4) || !in(frost, 0, 1)) return -2;
        if (world.today == 999) return -4;
        wind(world, wind);
        bargains = new ArrayList<>();
        if (frost == 0) {
            turnThen = inTurn(world, inForce(world.today));
            then = world.copy();
            bargains = market(world, turnThen);
        }
        burnAll(world, cold);
        return measures(bargains);
    }

    int about(int s, int what) {
        return shipAt(s) != null && in(what, 0, 12) ? shipAt(s)[what] : -1;
    }

    int bargain(int i, int what) {
        if (!in(i, 0, bargains.size() - 1) || !in(what, 0, 3)) return -1;
        Bargain b = bargains.get(i);
        return new int[] {b.ship(), b.buyer(), b.measures(), b.price()}[what];
    }

    int clear(int gangs) {
        if (!in(gangs, 1, 3)) return -2;
        Map<Integer, Integer> sold = new LinkedHashMap<>();
        for (Bargain b : bargains) sold.merge(b.ship(), b.measures(), Integer::sum);
        List<Integer> hours = sold.values().stream().limit(7).map(m -> (m + 9) / 10).toList();
        int best = Integer.MAX_VALUE;
        int ways = (int) Math.pow(gangs, hours.size());
        for (int way = 0; way < ways; way++) {
            int[] busy = new int[gangs];
            int rest = way;
            for (int h : hours) {
                busy[rest % gangs] += h;
                rest /= gangs;
            }
            best = Math.min(best, IntStream.of(busy).max().getAsInt());
        }
        return best;
    }

    int held(int s) {
        if (then == null || !in(s, 0, then.ships.size() - 1)) return -1;
        if (then.ships.get(s)[0] == 3 || then.ships.get(s)[7] > 1) return -1;
        World w = then.copy();
        List<Integer> turn = new ArrayList<>(turnThen);
        turn.remove(Integer.valueOf(s));
        turn.add(0, s);
        market(w, turn);
        return w.price;
    }

    int measure(int a, int b) {
        if (!(1 <= a && a <= b && b <= 99)) return -2;
        least = a;
        most = b;
        return 0;
    }

    int weighed(int s, int k, int weight, int what) {
        if (shipAt(s) == null || !in(what, 0, 2)) return -1;
        int load = shipAt(s)[2];
        if (!in(k, 0, load) || !in(weight, k * least, k * most)) return -2;
        int low = weight + (load - k) * least;
        int high = weight + (load - k) * most;
        return new int[] {low, high, high < 24 * load ? 1 : 0}[what];
    }

    int ward(int w, int what) {
        return in(w, 0, 5) && in(what, 0, 3) ? world.wards[w][what] : -1;
    }

    int lasts(int w, int cold) {
        if (!in(w, 0, 5)) return -1;
        if (!in(cold, 0, 4)) return -2;
        int rest = world.wards[w][0];
        int days = 0;
        while (days < 1000 && rest >= world.burns[w][cold]) {
            rest -= world.burns[w][cold];
            days++;
        }
        return days;
    }

    private static int lacked(World w) {
        return IntStream.range(0, 6).map(i -> w.wards[i][1]).sum();
    }

    int tried(int order, int n, int wind, int cold, int what) {
        if (!in(n, 1, 30) || !in(wind, 0, 9) || !in(cold, 0, 4) || !in(what, 0, 2)) return -2;
        if (!in(order, -1, orders.size() - 1)) return -1;
        World w = world.copy();
        int sold = 0;
        for (int d = 0; d < n; d++) {
            wind(w, wind);
            sold += measures(market(w, inTurn(w, order < 0 ? inForce(w.today) : orders.get(order))));
            burnAll(w, cold);
        }
        return new int[] {w.price, sold, lacked(w) - lacked(world)}[what];
    }

    int count(int what) {
        if (!in(what, 0, 7)) return -1;
        int dues = world.ships.stream().mapToInt(s -> s[12]).sum();
        return new int[] {world.ships.size(), world.buyers.size(), orders.size(), world.today, world.price,
            bargains.size(), dues, tape.length()}[what];
    }

    int factor(int f) {
        return in(f, 0, 5) ? world.ships.stream().filter(s -> s[4] == f).mapToInt(s -> s[11]).sum() : -1;
    }
}
