import java.util.ArrayList;
import java.util.List;
import java.util.function.Supplier;

/**
 * All that can be seen of an object: every question, and what calls that change it answer.
 *
 * Each group of calls has an object of its own, made anew, so that it stays below the document's 512 calls and may
 * change what it likes.
 */
final class Picture {
    private final List<String> lines = new ArrayList<>();

    private Picture() {
    }

    static List<String> of(Supplier<CoalTurns> scene) {
        Picture p = new Picture();
        p.shipsAndCounts(scene.get());
        p.questions(scene.get());
        p.trials(scene.get());
        p.whatOnlyChangesTell(scene.get());
        p.tape(scene.get());
        p.daysBehind(scene.get());
        return p.lines;
    }

    private void see(String call, int answer) {
        lines.add(call + " = " + answer);
    }

    private void shipsAndCounts(CoalTurns x) {
        for (int what = 0; what < 8; what++) see("count " + what, x.count(what));
        for (int s = 0; s < 20; s++) {
            for (int what = 0; what < 13; what++) see("about " + s + " " + what, x.about(s, what));
        }
    }

    private void questions(CoalTurns x) {
        for (int i = 0; i < 30; i++) {
            for (int what = 0; what < 4; what++) see("bargain " + i + " " + what, x.bargain(i, what));
        }
        for (int s = 0; s <= 20; s++) {
            see("turn " + s, x.turn(s));
            see("held " + s, x.held(s));
        }
        for (int gangs = 1; gangs <= 3; gangs++) see("clear " + gangs, x.clear(gangs));
        for (int w = 0; w < 6; w++) {
            for (int what = 0; what < 4; what++) see("ward " + w + " " + what, x.ward(w, what));
            for (int cold = 0; cold < 5; cold++) see("lasts " + w + " " + cold, x.lasts(w, cold));
            see("factor " + w, x.factor(w));
        }
    }

    private void trials(CoalTurns x) {
        for (int order = 0; order < 8; order++) {
            for (int price = 0; price < 100; price += 9) see("many " + order + " " + price, x.many(order, price));
            for (int what = 0; what < 3; what++) see("tried " + order, x.tried(order, 9, 2, 1, what));
        }
        for (int day = 0; day < 1000; day += 37) see("force " + day, x.force(day));
        for (int what = 0; what < 3; what++) see("tried -1", x.tried(-1, 9, 9, 2, what));
        for (int s = 0; s < 20; s++) {
            see("weighs at least " + s, x.weighed(s, 0, 0, 0));
            see("weighs at most " + s, x.weighed(s, 0, 0, 1));
        }
    }

    private void whatOnlyChangesTell(CoalTurns x) {
        for (int b = 0; b < 10; b++) see("want " + b, x.want(b, 0, 1));
        for (int w = 0; w < 6; w++) {
            for (int cold = 0; cold < 5; cold++) see("burn " + w + " " + cold, x.burn(w, cold, 0));
            see("store " + w, x.store(w, 0));
        }
        for (int s = 0; s < 20; s++) {
            see("ask " + s, x.ask(s, 1));
            see("goOn " + s, x.goOn(s));
            see("wreck " + s, x.wreck(s, 0));
        }
        see("ship", x.ship(0, 0, 1, 1, 0, 1));
        see("buyer", x.buyer(0, 0, 1, 1));
    }

    private void tape(CoalTurns x) {
        see("order", x.order(0));
        for (int price = 0; price < 100; price += 9) see("many 0 " + price, x.many(0, price));
        see("force", x.force(0));
    }

    private void daysBehind(CoalTurns x) {
        for (int d = 0; d < 3; d++) {
            see("day", x.day(9, d, 0));
            for (int i = 0; i < 8; i++) {
                see("bargain buyer " + i, x.bargain(i, 1));
                see("bargain PRICE " + i, x.bargain(i, 3));
            }
            for (int w = 0; w < 6; w++) see("lacked " + w, x.ward(w, 1));
            see("dues", x.count(6));
        }
    }
}
