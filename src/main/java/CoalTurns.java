import java.util.Arrays;

/**
 * A river's office for coal, as the document's promises 1 to 26 tell it.
 *
 * Every row is made in the constructor and used again: no call makes an object.
 */
public final class CoalTurns {
    public static final int NONE = -1, BAD = -2, STATE = -3, FULL = -4;

    private static final int MOST_SHIPS = 20;
    private static final int MOST_BUYERS = 10;
    private static final int MOST_ORDERS = 8;
    private static final int MOST_PARTS = 3;
    private static final int MOST_BYTES = 120;
    private static final int MOST_CLEARED = 7;
    private static final int MOST_GANGS = 3;
    private static final int MOST_TRIED_DAYS = 30;
    private static final int WARDS = 6;
    private static final int FACTORS = 6;
    private static final int SORTS = 4;
    private static final int COLDS = 5;
    private static final int LAST_DAY = 999;
    private static final int FOR_EVER = 1000;
    private static final int DUE_WEIGHT = 24;

    private static final int LIGHT = 1, GAS = 2, BONDED = 3;
    private static final int AT_SEA = 0, ENTERED = 1, LATE = 2, SOLD = 3, GONE_ON = 4, WRECKED = 5;

    private final River now = new River();
    /** The river when the latest MARKET opened: what held asks about. */
    private final River then = new River();
    /** Where held and tried work, so that all is as before behind them. */
    private final River trial = new River();
    private final Queue queue = new Queue();
    private final Queue queueThen = new Queue();
    private final DayBook book = new DayBook();
    private final DayBook trialBook = new DayBook();
    private final Lighters lighters = new Lighters();
    private final OrderBook orders = new OrderBook();
    private final Tape tape = new Tape();
    private boolean marketWasHeld = false;
    private int least = 20;
    private int most = 28;

    public CoalTurns() {
    }

    // ---- ships and buyers

    public int ship(int kind, int sort, int load, int ask, int factor, int way) {
        boolean good = within(kind, 0, BONDED) && within(sort, 0, SORTS - 1) && within(load, 1, 400)
            && isAsk(ask) && within(factor, 0, FACTORS - 1) && within(way, 1, 60);
        if (!good) return BAD;
        if (now.shipCount >= MOST_SHIPS) return FULL;
        now.ships[now.shipCount].begin(kind, sort, load, ask, factor, way);
        return now.shipCount++;
    }

    public int ask(int s, int a) {
        if (!now.hasShip(s)) return NONE;
        if (!isAsk(a)) return BAD;
        int before = now.ships[s].ask;
        now.ships[s].ask = a;
        return before;
    }

    public int wreck(int s, int saved) {
        if (!now.hasShip(s)) return NONE;
        Ship ship = now.ships[s];
        if (!within(saved, 0, ship.left)) return BAD;
        if (!within(ship.state, AT_SEA, LATE)) return STATE;
        return ship.founder(saved);
    }

    public int goOn(int s) {
        if (!now.hasShip(s)) return NONE;
        Ship ship = now.ships[s];
        if (ship.kind != BONDED || ship.state != ENTERED) return STATE;
        return ship.leave();
    }

    public int buyer(int ward, int sort, int want, int bid) {
        if (!isWard(ward)) return NONE;
        if (!within(sort, 0, SORTS - 1) || !isWant(want) || !isBid(bid)) return BAD;
        if (now.buyerCount >= MOST_BUYERS) return FULL;
        now.buyers[now.buyerCount].begin(ward, sort, want, bid);
        return now.buyerCount++;
    }

    public int want(int b, int want, int bid) {
        if (!within(b, 0, now.buyerCount - 1)) return NONE;
        if (!isWant(want) || !isBid(bid)) return BAD;
        Buyer buyer = now.buyers[b];
        int before = buyer.want;
        buyer.want = want;
        buyer.bid = bid;
        return before;
    }

    public int burn(int ward, int cold, int amount) {
        if (!isWard(ward)) return NONE;
        if (!isCold(cold) || !within(amount, 0, 500)) return BAD;
        int[] burns = now.wards[ward].burns;
        int before = burns[cold];
        burns[cold] = amount;
        return before;
    }

    public int store(int ward, int more) {
        if (!isWard(ward)) return NONE;
        if (!within(more, 0, 9999)) return BAD;
        now.wards[ward].store += more;
        return now.wards[ward].store;
    }

    // ---- orders

    public int feed(long w, int n) {
        if (!within(n, 1, 8)) return BAD;
        if (tape.size + n > MOST_BYTES) return FULL;
        for (int i = n - 1; i >= 0; i--) {
            tape.append((int) (w >>> (8 * i)) & 255);
        }
        return tape.size;
    }

    public int order(int day) {
        if (!within(day, 0, LAST_DAY)) return BAD;
        if (orders.size >= MOST_ORDERS) return FULL;
        Order next = orders.rows[orders.size];
        int fault = tape.read(next);
        tape.size = 0;
        if (fault != NONE) return -10 - fault;
        next.from = day;
        return orders.size++;
    }

    public int force(int day) {
        return orders.inForce(day);
    }

    public int many(int order, int price) {
        if (!orders.has(order)) return NONE;
        if (price < 0) return BAD;
        return orders.rows[order].sellers(price);
    }

    public int turn(int i) {
        queue.line(now, orders.ruleOn(now.today));
        return within(i, 0, queue.size - 1) ? queue.ships[i] : NONE;
    }

    // ---- days

    public int day(int wind, int cold, int frost) {
        if (!isWind(wind) || !isCold(cold) || !within(frost, 0, 1)) return BAD;
        if (now.today >= LAST_DAY) return FULL;
        book.open();
        now.sail(wind);
        if (frost == 0) {
            queueThen.line(now, orders.ruleOn(now.today));
            then.copy(now);
            marketWasHeld = true;
            now.trade(queueThen, book);
        }
        now.endDay(cold);
        return book.measures;
    }

    public int about(int s, int what) {
        return now.hasShip(s) ? now.ships[s].fact(what) : NONE;
    }

    public int bargain(int i, int what) {
        return book.fact(i, what);
    }

    public int clear(int gangs) {
        if (!within(gangs, 1, MOST_GANGS)) return BAD;
        return lighters.hours(book, gangs);
    }

    public int held(int s) {
        if (!marketWasHeld || !then.hasShip(s)) return NONE;
        Ship ship = then.ships[s];
        if (ship.kind == BONDED || !within(ship.state, AT_SEA, ENTERED)) return NONE;
        trial.copy(then);
        queue.putFirst(s, queueThen);
        trialBook.open();
        trial.trade(queue, trialBook);
        return trial.price;
    }

    // ---- weights

    public int measure(int least, int most) {
        if (least < 1 || most < least || most > 99) return BAD;
        this.least = least;
        this.most = most;
        return 0;
    }

    public int weighed(int s, int k, int weight, int what) {
        if (!now.hasShip(s) || !within(what, 0, 2)) return NONE;
        int load = now.ships[s].load;
        if (!within(k, 0, load) || !within(weight, k * least, k * most)) return BAD;
        if (what == 0) return weight + (load - k) * least;
        int atMost = weight + (load - k) * most;
        if (what == 1) return atMost;
        return atMost < load * DUE_WEIGHT ? 1 : 0;
    }

    // ---- wards

    public int ward(int w, int what) {
        return isWard(w) ? now.wards[w].fact(what) : NONE;
    }

    public int lasts(int w, int cold) {
        if (!isWard(w)) return NONE;
        if (!isCold(cold)) return BAD;
        int daily = now.wards[w].burns[cold];
        if (daily <= 0) return FOR_EVER;
        return Math.min(now.wards[w].store / daily, FOR_EVER);
    }

    public int tried(int order, int n, int wind, int cold, int what) {
        if (!within(n, 1, MOST_TRIED_DAYS) || !isWind(wind) || !isCold(cold) || !within(what, 0, 2)) return BAD;
        if (order != NONE && !orders.has(order)) return NONE;
        trial.copy(now);
        int sold = 0;
        for (int d = 0; d < n; d++) {
            Order rule = order == NONE ? orders.ruleOn(trial.today) : orders.rows[order];
            sold += tryDay(rule, wind, cold);
        }
        if (what == 0) return trial.price;
        return what == 1 ? sold : trial.lackedDays() - now.lackedDays();
    }

    public int count(int what) {
        switch (what) {
            case 0: return now.shipCount;
            case 1: return now.buyerCount;
            case 2: return orders.size;
            case 3: return now.today;
            case 4: return now.price;
            case 5: return book.size;
            case 6: return now.duesOfAll();
            case 7: return tape.size;
            default: return NONE;
        }
    }

    public int factor(int f) {
        return within(f, 0, FACTORS - 1) ? now.takenFor(f) : NONE;
    }

    private int tryDay(Order rule, int wind, int cold) {
        trialBook.open();
        trial.sail(wind);
        queue.line(trial, rule);
        trial.trade(queue, trialBook);
        trial.endDay(cold);
        return trialBook.measures;
    }

    private static boolean within(int x, int low, int high) {
        return x >= low && x <= high;
    }

    private static boolean isAsk(int x) {
        return within(x, 1, 99);
    }

    private static boolean isBid(int x) {
        return within(x, 1, 120);
    }

    private static boolean isWant(int x) {
        return within(x, 0, 2000);
    }

    private static boolean isWard(int x) {
        return within(x, 0, WARDS - 1);
    }

    private static boolean isCold(int x) {
        return within(x, 0, COLDS - 1);
    }

    private static boolean isWind(int x) {
        return within(x, 0, 9);
    }

    private static final class Ship {
        int kind;
        int sort;
        int load;
        int ask;
        int factor;
        int way;
        int left;
        int state;
        int entered;
        int missed;
        int sold;
        int taken;
        int dues;

        void begin(int kind, int sort, int load, int ask, int factor, int way) {
            this.kind = kind;
            this.sort = sort;
            this.load = load;
            this.ask = ask;
            this.factor = factor;
            this.way = way;
            left = load;
            state = AT_SEA;
            entered = NONE;
        }

        void copy(Ship from) {
            kind = from.kind;
            sort = from.sort;
            load = from.load;
            ask = from.ask;
            factor = from.factor;
            way = from.way;
            left = from.left;
            state = from.state;
            entered = from.entered;
            missed = from.missed;
            sold = from.sold;
            taken = from.taken;
            dues = from.dues;
        }

        int fact(int what) {
            switch (what) {
                case 0: return kind;
                case 1: return sort;
                case 2: return load;
                case 3: return ask;
                case 4: return factor;
                case 5: return way;
                case 6: return left;
                case 7: return state;
                case 8: return entered;
                case 9: return missed;
                case 10: return sold;
                case 11: return taken;
                case 12: return dues;
                default: return NONE;
            }
        }

        void sail(int wind, int today) {
            if (state != AT_SEA) return;
            way = Math.max(0, way - (kind == LIGHT ? 2 * wind : wind));
            if (way > 0) return;
            state = ENTERED;
            entered = today;
            if (kind == BONDED) dues += 3 * load;
        }

        int duesFor(int measures) {
            return kind == GAS ? measures : 2 * measures;
        }

        int founder(int saved) {
            int owed = duesFor(saved);
            left -= saved;
            dues += owed;
            state = WRECKED;
            return owed;
        }

        int leave() {
            int back = 2 * load;
            dues -= back;
            state = GONE_ON;
            return back;
        }

        void deliver(int measures, int price) {
            left -= measures;
            sold += measures;
            taken += measures * price;
            dues += duesFor(measures);
            if (left == 0) state = SOLD;
        }

        void miss() {
            missed++;
            if (missed >= 2 && kind != GAS) state = LATE;
        }

        boolean isInPort() {
            return state == ENTERED || state == LATE;
        }
    }

    private static final class Buyer {
        int ward;
        int sort;
        int want;
        int bid;

        void begin(int ward, int sort, int want, int bid) {
            this.ward = ward;
            this.sort = sort;
            this.want = want;
            this.bid = bid;
        }

        void copy(Buyer from) {
            begin(from.ward, from.sort, from.want, from.bid);
        }

        boolean takes(Ship ship) {
            return want > 0 && sort == ship.sort && bid >= ship.ask;
        }
    }

    private static final class Ward {
        final int[] burns = new int[COLDS];
        int store;
        int lacked;
        int burnt;
        int came;

        void copy(Ward from) {
            System.arraycopy(from.burns, 0, burns, 0, COLDS);
            store = from.store;
            lacked = from.lacked;
            burnt = from.burnt;
            came = from.came;
        }

        int fact(int what) {
            switch (what) {
                case 0: return store;
                case 1: return lacked;
                case 2: return burnt;
                case 3: return came;
                default: return NONE;
            }
        }

        void receive(int measures) {
            store += measures;
            came += measures;
        }

        void heat(int cold) {
            int need = burns[cold];
            if (store < need) lacked++;
            int used = Math.min(store, need);
            store -= used;
            burnt += used;
        }
    }

    /** All that a DAY changes, so that a copy of it can live other days. */
    private static final class River {
        final Ship[] ships = new Ship[MOST_SHIPS];
        final Buyer[] buyers = new Buyer[MOST_BUYERS];
        final Ward[] wards = new Ward[WARDS];
        int shipCount = 0;
        int buyerCount = 0;
        int today = 0;
        int price = 30;

        River() {
            for (int s = 0; s < MOST_SHIPS; s++) ships[s] = new Ship();
            for (int b = 0; b < MOST_BUYERS; b++) buyers[b] = new Buyer();
            for (int w = 0; w < WARDS; w++) wards[w] = new Ward();
        }

        void copy(River from) {
            shipCount = from.shipCount;
            buyerCount = from.buyerCount;
            today = from.today;
            price = from.price;
            for (int s = 0; s < shipCount; s++) ships[s].copy(from.ships[s]);
            for (int b = 0; b < buyerCount; b++) buyers[b].copy(from.buyers[b]);
            for (int w = 0; w < WARDS; w++) wards[w].copy(from.wards[w]);
        }

        boolean hasShip(int s) {
            return within(s, 0, shipCount - 1);
        }

        void sail(int wind) {
            for (int s = 0; s < shipCount; s++) ships[s].sail(wind, today);
        }

        void trade(Queue queue, DayBook book) {
            for (int i = 0; i < queue.size; i++) {
                int s = queue.ships[i];
                if (!sell(s, book)) ships[s].miss();
            }
            if (book.measures > 0) price = book.money / book.measures;
        }

        /** Each bargain leaves the ship or one buyer with nothing: there are no more rounds than buyers. */
        private boolean sell(int s, DayBook book) {
            Ship ship = ships[s];
            boolean sold = false;
            for (int round = 0; round < buyerCount && ship.left > 0; round++) {
                int b = bestBuyer(ship);
                if (b == NONE) break;
                strike(s, b, book);
                sold = true;
            }
            return sold;
        }

        private int bestBuyer(Ship ship) {
            int best = NONE;
            for (int b = 0; b < buyerCount; b++) {
                boolean better = best == NONE || buyers[b].bid > buyers[best].bid;
                if (better && buyers[b].takes(ship)) best = b;
            }
            return best;
        }

        private void strike(int s, int b, DayBook book) {
            Ship ship = ships[s];
            Buyer buyer = buyers[b];
            int measures = Math.min(ship.left, buyer.want);
            int each = (ship.ask + buyer.bid) / 2;
            ship.deliver(measures, each);
            buyer.want -= measures;
            wards[buyer.ward].receive(measures);
            book.enter(s, b, measures, each);
        }

        void endDay(int cold) {
            for (int w = 0; w < WARDS; w++) wards[w].heat(cold);
            today++;
        }

        int lackedDays() {
            int sum = 0;
            for (int w = 0; w < WARDS; w++) sum += wards[w].lacked;
            return sum;
        }

        int duesOfAll() {
            int sum = 0;
            for (int s = 0; s < shipCount; s++) sum += ships[s].dues;
            return sum;
        }

        int takenFor(int f) {
            int sum = 0;
            for (int s = 0; s < shipCount; s++) {
                if (ships[s].factor == f) sum += ships[s].taken;
            }
            return sum;
        }
    }

    /** The ships that are IN TURN, the first to sell first. */
    private static final class Queue {
        /** Above every key, so that LATE ones stand behind all others. */
        private static final int LATE_RANK = 1000000;

        final int[] ships = new int[MOST_SHIPS];
        final int[] ranks = new int[MOST_SHIPS];
        int size = 0;

        void line(River river, Order rule) {
            size = 0;
            for (int s = 0; s < river.shipCount; s++) {
                Ship ship = river.ships[s];
                if (ship.kind <= LIGHT && ship.isInPort()) insert(s, rank(s, ship, rule, river.today));
            }
            size = Math.min(size, rule.sellers(river.price));
            for (int s = 0; s < river.shipCount; s++) {
                Ship ship = river.ships[s];
                if (ship.kind == GAS && ship.isInPort()) insert(s, Integer.MAX_VALUE);
            }
        }

        private static int rank(int s, Ship ship, Order rule, int today) {
            return rule.keyOf(s, ship, today) + (ship.state == LATE ? LATE_RANK : 0);
        }

        /** Of like ranks the one that came first stays ahead: callers come by numbers. */
        private void insert(int s, int rank) {
            if (size >= MOST_SHIPS) return;
            int at = size;
            while (at > 0 && ranks[at - 1] > rank) {
                ships[at] = ships[at - 1];
                ranks[at] = ranks[at - 1];
                at--;
            }
            ships[at] = s;
            ranks[at] = rank;
            size++;
        }

        /** The other queue with a ship put ahead of all, whether it stood there or not. */
        void putFirst(int s, Queue other) {
            ships[0] = s;
            size = 1;
            for (int i = 0; i < other.size && size < MOST_SHIPS; i++) {
                if (other.ships[i] != s) ships[size++] = other.ships[i];
            }
        }
    }

    /** The BARGAINS of one day. */
    private static final class DayBook {
        /** Each bargain leaves a ship or a buyer with nothing. */
        private static final int MOST_BARGAINS = MOST_SHIPS + MOST_BUYERS;

        final int[] ships = new int[MOST_BARGAINS];
        final int[] buyers = new int[MOST_BARGAINS];
        final int[] amounts = new int[MOST_BARGAINS];
        final int[] prices = new int[MOST_BARGAINS];
        int size = 0;
        int measures = 0;
        int money = 0;

        void open() {
            size = 0;
            measures = 0;
            money = 0;
        }

        void enter(int s, int b, int amount, int price) {
            if (size >= MOST_BARGAINS) return;
            ships[size] = s;
            buyers[size] = b;
            amounts[size] = amount;
            prices[size] = price;
            size++;
            measures += amount;
            money += amount * price;
        }

        int fact(int i, int what) {
            if (!within(i, 0, size - 1)) return NONE;
            switch (what) {
                case 0: return ships[i];
                case 1: return buyers[i];
                case 2: return amounts[i];
                case 3: return prices[i];
                default: return NONE;
            }
        }
    }

    /** Which gang clears which ship: few enough ships to try all ways. */
    private static final class Lighters {
        final int[] sold = new int[MOST_CLEARED];
        final int[] busy = new int[MOST_GANGS];

        int hours(DayBook book, int gangs) {
            int size = gather(book);
            int all = 0;
            for (int i = 0; i < size; i++) {
                sold[i] = (sold[i] + 9) / 10;
                all += sold[i];
            }
            Arrays.fill(busy, 0);
            return leastHours(sold, size, busy, gangs, all);
        }

        /** What each ship sold: a ship's bargains stand together in the book. */
        private int gather(DayBook book) {
            int size = 0;
            for (int i = 0; i < book.size; i++) {
                boolean another = i == 0 || book.ships[i] != book.ships[i - 1];
                if (another && size == MOST_CLEARED) break;
                if (another) sold[size++] = 0;
                if (size > 0) sold[size - 1] += book.amounts[i];
            }
            return size;
        }

        /** Tries each gang for the last ship that is not placed: as deep as there are ships, 7 at most. */
        private static int leastHours(int[] needs, int unplaced, int[] busy, int gangs, int best) {
            if (unplaced <= 0) return longest(busy, gangs);
            int need = needs[unplaced - 1];
            int found = best;
            for (int g = 0; g < gangs; g++) {
                if (busy[g] + need >= found) continue;
                busy[g] += need;
                found = Math.min(found, leastHours(needs, unplaced - 1, busy, gangs, found));
                busy[g] -= need;
            }
            return found;
        }

        private static int longest(int[] busy, int gangs) {
            int most = 0;
            for (int g = 0; g < gangs; g++) most = Math.max(most, busy[g]);
            return most;
        }
    }

    private static final class Order {
        static final int BY_ENTRY = 0, BY_ASK = 1, BY_LOAD = 2, BY_LOT = 3;

        final int[] partSellers = new int[MOST_PARTS];
        final int[] partPrices = new int[MOST_PARTS];
        final boolean[] partBelow = new boolean[MOST_PARTS];
        int parts = 0;
        int otherwise = 99;
        int key = BY_ENTRY;
        int from = 0;

        void addPart(int sellers, boolean below, int price) {
            if (parts >= MOST_PARTS) return;
            partSellers[parts] = sellers;
            partBelow[parts] = below;
            partPrices[parts] = price;
            parts++;
        }

        int sellers(int price) {
            for (int p = 0; p < parts; p++) {
                boolean fits = partBelow[p] ? price < partPrices[p] : price > partPrices[p];
                if (fits) return partSellers[p];
            }
            return otherwise;
        }

        int keyOf(int s, Ship ship, int today) {
            switch (key) {
                case BY_ASK: return ship.ask;
                case BY_LOAD: return ship.left;
                case BY_LOT: return (7 * s + 5 * today) % 23;
                default: return ship.entered;
            }
        }
    }

    private static final class OrderBook {
        final Order[] rows = new Order[MOST_ORDERS];
        /** A new Order is 'turn entry;sell 99': the one that holds without any. */
        final Order custom = new Order();
        int size = 0;

        OrderBook() {
            for (int i = 0; i < MOST_ORDERS; i++) rows[i] = new Order();
        }

        boolean has(int order) {
            return within(order, 0, size - 1);
        }

        int inForce(int day) {
            int latest = NONE;
            for (int i = 0; i < size; i++) {
                boolean later = latest == NONE || rows[i].from >= rows[latest].from;
                if (later && rows[i].from <= day) latest = i;
            }
            return latest;
        }

        Order ruleOn(int day) {
            int number = inForce(day);
            return number == NONE ? custom : rows[number];
        }
    }

    /** THE TAPE, and the reading of it: where a reading step fails, at is the FAULT. */
    private static final class Tape {
        final int[] bytes = new int[MOST_BYTES];
        int size = 0;
        int at = 0;

        void append(int b) {
            if (size < MOST_BYTES) bytes[size++] = b;
        }

        /** The FAULT, or NONE: then the order is all that was read. */
        int read(Order order) {
            at = 0;
            order.parts = 0;
            boolean whole = word("turn ") && key(order) && word(";sell ") && parts(order);
            return whole ? NONE : at;
        }

        private boolean key(Order order) {
            if (word("a")) {
                order.key = Order.BY_ASK;
                return word("sk");
            }
            if (word("e")) {
                order.key = Order.BY_ENTRY;
                return word("ntry");
            }
            if (!word("lo")) return false;
            if (word("t")) {
                order.key = Order.BY_LOT;
                return true;
            }
            order.key = Order.BY_LOAD;
            return word("ad");
        }

        private boolean parts(Order order) {
            for (int p = 0; p <= MOST_PARTS; p++) {
                int sellers = number(2);
                if (sellers == NONE) return false;
                if (at >= size) {
                    order.otherwise = sellers;
                    return true;
                }
                if (p == MOST_PARTS || !part(order, sellers)) return false;
            }
            return false;
        }

        private boolean part(Order order, int sellers) {
            if (!word(" at ")) return false;
            boolean below = word("<");
            if (!below && !word(">")) return false;
            int price = number(3);
            if (price == NONE) return false;
            order.addPart(sellers, below, price);
            return word(",");
        }

        /** Goes on behind each sign that is there, so that at stands at the first that is not. */
        private boolean word(String signs) {
            for (int i = 0; i < signs.length(); i++) {
                if (at >= size || bytes[at] != signs.charAt(i)) return false;
                at++;
            }
            return true;
        }

        /** As many digits as stand here, up to a number of them; NONE without any. */
        private int number(int digits) {
            int value = NONE;
            for (int d = 0; d < digits && at < size && within(bytes[at], '0', '9'); d++) {
                value = Math.max(value, 0) * 10 + bytes[at] - '0';
                at++;
            }
            return value;
        }
    }
}
