/** Counts the answers that are not as due, and ends a test accordingly. */
final class Checks {
    // A broken promise can spoil millions of answers; the first ones tell enough.
    private static final int MOST_TOLD = 50;

    private int wrong = 0;
    private int seen = 0;

    void due(String call, long got, long want) {
        seen++;
        if (got != want) {
            wrong++;
            tell(call, got, want);
        }
    }

    private void tell(String call, long got, long want) {
        if (wrong <= MOST_TOLD) {
            System.out.println(call + " answered " + got + ", due is " + want);
        }
    }

    void holds(String what, boolean holds) {
        due(what, holds ? 1 : 0, 1);
    }

    /** Looks at both readings, each twice, since neither may change anything. */
    void state(String when, MinIntGuard x, int verdict, int asInt) {
        for (int round = 1; round <= 2; round++) {
            due(when + ": verdict(), round " + round, x.verdict(), verdict);
            due(when + ": asInt(), round " + round, x.asInt(), asInt);
        }
    }

    /** A guard fed with "-" as minus() and each decimal digit as digit(d). */
    static MinIntGuard fed(String literal) {
        MinIntGuard x = new MinIntGuard();
        for (char c : literal.toCharArray()) {
            if (c == '-') {
                x.minus();
            } else {
                x.digit(c - '0');
            }
        }
        return x;
    }

    void end() {
        System.out.println(wrong == 0
            ? "all " + seen + " answers are as due"
            : wrong + " of " + seen + " answers are not as due");
        if (wrong != 0) {
            System.exit(1);
        }
    }
}
