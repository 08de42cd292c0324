/** Counts answers that are not as due, and feeds texts to THE TAPE. */
final class Check {
    private int calls = 0;
    private int wrong = 0;

    void due(String call, long got, long want) {
        calls++;
        if (got == want) return;
        wrong++;
        if (wrong <= 50) System.out.println(call + " answered " + got + ", due is " + want);
    }

    void isTrue(String claim, boolean holds) {
        due(claim, holds ? 1 : 0, 1);
    }

    void end() {
        System.out.println(calls + " answers, " + wrong + " not as due");
        if (wrong != 0) System.exit(1);
    }

    static void feed(CoalTurns x, String text) {
        for (int i = 0; i < text.length(); i++) x.feed(text.charAt(i), 1);
    }

    static int order(CoalTurns x, String text, int day) {
        feed(x, text);
        return x.order(day);
    }

    /** Ships of one kind whose WAY is 1: one day of wind brings them in. */
    static int near(CoalTurns x, int kind, int sort, int load, int ask) {
        return x.ship(kind, sort, load, ask, 0, 1);
    }
}
