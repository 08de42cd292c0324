/** Promises 1 to 9: a new object, ship, ask, wreck, goOn, buyer, want, burn, store. */
public final class ShipsTest {
    private static final int NONE = CoalTurns.NONE, BAD = CoalTurns.BAD, STATE = CoalTurns.STATE, FULL = CoalTurns.FULL;
    private static final Check check = new Check();

    public static void main(String[] args) {
        nothingIsThere();
        shipsAreNumbered();
        shipsAreRefused();
        askBecomesOther();
        wrecksPayForWhatWasSaved();
        wrecksAreRefused();
        bondedGoOn();
        buyersAreNumberedAndRefused();
        wantBecomesOther();
        burnIsToldByCold();
        storeGrows();
        check.end();
    }

    private static void nothingIsThere() {
        CoalTurns x = new CoalTurns();
        int[] due = {0, 0, 0, 0, 30, 0, 0, 0};
        for (int what = 0; what < due.length; what++) check.due("new: count " + what, x.count(what), due[what]);
        for (int w = 0; w < 6; w++) {
            for (int what = 0; what < 4; what++) check.due("new: ward", x.ward(w, what), 0);
            for (int cold = 0; cold < 5; cold++) check.due("new: burn", x.burn(w, cold, 0), 0);
        }
        for (int f = 0; f < 6; f++) check.due("new: factor", x.factor(f), 0);
        check.due("new: about", x.about(0, 0), NONE);
        check.due("new: force", x.force(0), NONE);
        check.due("new: turn", x.turn(0), NONE);
        check.due("new: held", x.held(0), NONE);
        check.due("new: clear", x.clear(1), 0);
        check.due("new: bargain", x.bargain(0, 0), NONE);
    }

    private static void shipsAreNumbered() {
        CoalTurns x = new CoalTurns();
        check.due("ship", x.ship(1, 3, 400, 99, 5, 60), 0);
        int[] due = {1, 3, 400, 99, 5, 60, 400, 0, NONE, 0, 0, 0, 0};
        for (int what = 0; what < due.length; what++) check.due("about(0, " + what + ")", x.about(0, what), due[what]);
        for (int s = 1; s < 20; s++) check.due("ship " + s, x.ship(0, 0, 1, 1, 0, 1), s);
        check.due("ship 20", x.ship(0, 0, 1, 1, 0, 1), FULL);
        check.due("BAD ahead of FULL", x.ship(0, 0, 0, 1, 0, 1), BAD);
        check.due("count", x.count(0), 20);
    }

    private static void shipsAreRefused() {
        CoalTurns x = new CoalTurns();
        int[] least = {0, 0, 1, 1, 0, 1};
        int[] most = {3, 3, 400, 99, 5, 60};
        for (int i = 0; i < 6; i++) {
            int[] wrongs = {least[i] - 1, most[i] + 1, Integer.MIN_VALUE, Integer.MAX_VALUE};
            for (int wrong : wrongs) {
                int[] a = least.clone();
                a[i] = wrong;
                check.due("ship with " + wrong + " at " + i, x.ship(a[0], a[1], a[2], a[3], a[4], a[5]), BAD);
            }
        }
        check.due("none came", x.count(0), 0);
    }

    private static void askBecomesOther() {
        CoalTurns x = new CoalTurns();
        check.due("ask without", x.ask(0, 0), NONE);
        Check.near(x, 0, 0, 10, 5);
        check.due("ask -1", x.ask(-1, 5), NONE);
        check.due("ask 0", x.ask(0, 0), BAD);
        check.due("ask 100", x.ask(0, 100), BAD);
        check.due("ask 99", x.ask(0, 99), 5);
        check.due("ask 1", x.ask(0, 1), 99);
        check.due("about 3", x.about(0, 3), 1);
        x.wreck(0, 10);
        check.due("ask of a WRECK", x.ask(0, 7), 1);
    }

    private static void wrecksPayForWhatWasSaved() {
        CoalTurns x = new CoalTurns();
        for (int kind = 0; kind < 4; kind++) x.ship(kind, 0, 50, 5, 0, 9);
        check.due("wreck PLAIN", x.wreck(0, 20), 40);
        check.due("wreck LIGHT", x.wreck(1, 50), 100);
        check.due("wreck GAS", x.wreck(2, 20), 20);
        check.due("wreck BONDED", x.wreck(3, 20), 40);
        check.due("LEFT", x.about(0, 6), 30);
        check.due("LEFT of all saved", x.about(1, 6), 0);
        check.due("its state", x.about(1, 7), 5);
        check.due("its WAY stays", x.about(0, 5), 9);
        check.due("it never ENTERED", x.about(0, 8), NONE);
        check.due("saved is not sold", x.about(0, 10), 0);
        check.due("DUES of all", x.count(6), 200);
        x.day(9, 0, 0);
        check.due("a WRECK comes no more", x.about(0, 7), 5);
        check.due("nor is it IN TURN", x.turn(0), NONE);
    }

    private static void wrecksAreRefused() {
        CoalTurns x = new CoalTurns();
        check.due("wreck without", x.wreck(0, -1), NONE);
        Check.near(x, 0, 0, 10, 5);
        x.buyer(0, 0, 4, 9);
        x.day(1, 0, 0);
        check.due("above LEFT", x.wreck(0, 7), BAD);
        check.due("below 0", x.wreck(0, -1), BAD);
        check.due("all that is LEFT", x.wreck(0, 6), 12);
        check.due("DUES with those of what it sold", x.about(0, 12), 20);
        check.due("once more", x.wreck(0, 0), STATE);
        check.due("BAD ahead of STATE", x.wreck(0, 1), BAD);
        Check.near(x, 0, 0, 10, 5);
        x.want(0, 10, 9);
        x.day(1, 0, 0);
        check.due("it is SOLD", x.about(1, 7), 3);
        check.due("a SOLD one", x.wreck(1, 0), STATE);
    }

    private static void bondedGoOn() {
        CoalTurns x = new CoalTurns();
        check.due("goOn without", x.goOn(0), NONE);
        x.ship(3, 0, 7, 5, 0, 2);
        Check.near(x, 0, 0, 7, 5);
        x.buyer(0, 0, 100, 50);
        check.due("AT SEA", x.goOn(0), STATE);
        x.day(2, 0, 0);
        check.due("it does not sell", x.about(0, 10), 0);
        check.due("it pays 3 for each", x.about(0, 12), 21);
        check.due("PLAIN", x.goOn(1), STATE);
        check.due("goOn", x.goOn(0), 14);
        check.due("GONE ON", x.about(0, 7), 4);
        check.due("DUES", x.about(0, 12), 7);
        check.due("again", x.goOn(0), STATE);
        check.due("no WRECK any more", x.wreck(0, 0), STATE);
        check.due("DUES of all", x.count(6), 21);
    }

    private static void buyersAreNumberedAndRefused() {
        CoalTurns x = new CoalTurns();
        check.due("ward -1", x.buyer(-1, 9, 0, 1), NONE);
        check.due("ward 6", x.buyer(6, 0, 0, 1), NONE);
        check.due("sort -1", x.buyer(0, -1, 0, 1), BAD);
        check.due("sort 4", x.buyer(0, 4, 0, 1), BAD);
        check.due("want -1", x.buyer(0, 0, -1, 1), BAD);
        check.due("want 2001", x.buyer(0, 0, 2001, 1), BAD);
        check.due("bid 0", x.buyer(0, 0, 0, 0), BAD);
        check.due("bid 121", x.buyer(0, 0, 0, 121), BAD);
        check.due("least", x.buyer(0, 0, 0, 1), 0);
        check.due("most", x.buyer(5, 3, 2000, 120), 1);
        for (int b = 2; b < 10; b++) check.due("buyer " + b, x.buyer(0, 0, 0, 1), b);
        check.due("buyer 10", x.buyer(0, 0, 0, 1), FULL);
        check.due("BAD ahead of FULL", x.buyer(0, 0, 0, 0), BAD);
        check.due("count", x.count(1), 10);
    }

    private static void wantBecomesOther() {
        CoalTurns x = new CoalTurns();
        check.due("want without", x.want(0, -1, 0), NONE);
        x.buyer(0, 0, 100, 50);
        Check.near(x, 0, 0, 30, 40);
        check.due("buyer -1", x.want(-1, 5, 50), NONE);
        check.due("buyer 1", x.want(1, 5, 50), NONE);
        check.due("want -1", x.want(0, -1, 50), BAD);
        check.due("want 2001", x.want(0, 2001, 50), BAD);
        check.due("bid 0", x.want(0, 5, 0), BAD);
        check.due("bid 121", x.want(0, 5, 121), BAD);
        x.day(1, 0, 0);
        check.due("what it still wanted", x.want(0, 2000, 39), 70);
        Check.near(x, 0, 0, 30, 40);
        check.due("the BID is other, too", x.day(1, 0, 0), 0);
        check.due("what it wanted", x.want(0, 0, 120), 2000);
        check.due("it wants nothing", x.day(1, 0, 0), 0);
    }

    private static void burnIsToldByCold() {
        CoalTurns x = new CoalTurns();
        check.due("ward 6", x.burn(6, 9, 0), NONE);
        check.due("ward -1", x.burn(-1, 0, 0), NONE);
        check.due("cold -1", x.burn(0, -1, 0), BAD);
        check.due("cold 5", x.burn(0, 5, 0), BAD);
        check.due("amount -1", x.burn(0, 0, -1), BAD);
        check.due("amount 501", x.burn(0, 0, 501), BAD);
        check.due("burn", x.burn(5, 4, 500), 0);
        check.due("of another COLD", x.burn(5, 3, 10), 0);
        check.due("of another WARD", x.burn(4, 4, 10), 0);
        check.due("what it was", x.burn(5, 4, 0), 500);
    }

    private static void storeGrows() {
        CoalTurns x = new CoalTurns();
        check.due("ward 6", x.store(6, -1), NONE);
        check.due("more -1", x.store(0, -1), BAD);
        check.due("more 10000", x.store(0, 10000), BAD);
        check.due("more 9999", x.store(0, 9999), 9999);
        check.due("and more", x.store(0, 9999), 19998);
        check.due("nothing more", x.store(0, 0), 19998);
        check.due("STORE", x.ward(0, 0), 19998);
        check.due("not by BARGAINS", x.ward(0, 3), 0);
        check.due("another WARD", x.ward(1, 0), 0);
    }
}
