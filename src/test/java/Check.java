import java.util.List;
import java.util.function.IntUnaryOperator;
import java.util.function.Supplier;
import java.util.function.ToIntFunction;

/** Counts answers that are not as due, and has the forms that many tests share. */
final class Check {
    private int calls = 0;
    private int wrong = 0;

    void due(String call, long got, long want) {
        calls++;
        if (got == want) return;
        wrong++;
        if (wrong <= 50) System.out.println(call + " answered " + got + ", due is " + want);
    }

    void isTrue(String claim, boolean holds) {
        due(claim, holds ? 1 : 0, 1);
    }

    void end() {
        System.out.println(calls + " answers, " + wrong + " not as due");
        if (wrong != 0) System.exit(1);
    }

    /** The last number that is taken and the first that is refused, on either side. */
    void range(String name, int low, int high, int refusal, IntUnaryOperator call) {
        isTrue(name + " " + low + " is taken", call.applyAsInt(low) >= 0);
        isTrue(name + " " + high + " is taken", call.applyAsInt(high) >= 0);
        int[] wrongs = {low - 1, high + 1, Integer.MIN_VALUE, Integer.MAX_VALUE};
        for (int number : wrongs) due(name + " " + number, call.applyAsInt(number), refusal);
    }

    /** A call that has this answer and changes nothing that can be seen. */
    void idle(String name, Supplier<CoalTurns> scene, int due, ToIntFunction<CoalTurns> call) {
        due(name, call.applyAsInt(scene.get()), due);
        List<String> before = Picture.of(scene);
        List<String> behind = Picture.of(() -> {
            CoalTurns x = scene.get();
            call.applyAsInt(x);
            return x;
        });
        int differ = 0;
        while (differ < before.size() && before.get(differ).equals(behind.get(differ))) differ++;
        if (differ == before.size()) return;
        isTrue(name + ": '" + before.get(differ) + "' became '" + behind.get(differ) + "'", false);
    }

    static void feed(CoalTurns x, String text) {
        for (int i = 0; i < text.length(); i++) x.feed(text.charAt(i), 1);
    }

    static int order(CoalTurns x, String text, int day) {
        feed(x, text);
        return x.order(day);
    }

    /** Ships of one kind whose WAY is 1: one day of wind brings them in. */
    static int near(CoalTurns x, int kind, int sort, int load, int ask) {
        return x.ship(kind, sort, load, ask, 0, 1);
    }
}
