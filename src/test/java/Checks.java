import java.util.function.Consumer;
import java.util.function.ToIntFunction;

/** Counts the answers that are not as due, and ends a test accordingly. */
final class Checks {
    // A broken promise can spoil millions of answers; the first ones tell enough.
    private static final int MOST_TOLD = 50;

    /** The empty literal, ordinary ones and the edges, each with and without a minus. */
    static final String[] LITERALS = {
        "", "0", "00", "7", "42", "214748364", "2147483647", "2147483648", "2147483649", "99999999999",
        "-", "-0", "-00", "-7", "-42", "-214748364", "-2147483647", "-2147483648", "-2147483649", "-99999999999",
    };

    // What can follow tells the flags that the readings alone don't show: the
    // started flag by a later minus, the minus flag at magnitude 0 by a digit.
    private static final String[] FOLLOWING = {
        "", "-", "-1", "0", "1", "2", "3", "4", "5", "6", "7", "8", "9", "1-", "0-1",
    };

    private int wrong = 0;
    private int seen = 0;

    void due(String call, long got, long want) {
        seen++;
        if (got != want) {
            wrong++;
            tell(call, got, want);
        }
    }

    private void tell(String call, long got, long want) {
        if (wrong <= MOST_TOLD) {
            System.out.println(call + " answered " + got + ", due is " + want);
        }
    }

    void holds(String what, boolean holds) {
        due(what, holds ? 1 : 0, 1);
    }

    /** Looks at both readings, each twice, since neither may change anything. */
    void state(String when, MinIntGuard x, int verdict, int asInt) {
        for (int round = 1; round <= 2; round++) {
            due(when + ": verdict(), round " + round, x.verdict(), verdict);
            due(when + ": asInt(), round " + round, x.asInt(), asInt);
        }
    }

    /** After the literal, the call leaves every later answer as it would be without it. */
    void changesNothing(String literal, String call, Consumer<MinIntGuard> touch) {
        for (String following : FOLLOWING) {
            String when = "'" + literal + "', " + call + ", '" + following + "': ";
            // A pair of objects for each reading: on a shared pair, a reading that
            // wrongly changes something would spoil both alike and hide it.
            sameAfter(when + "verdict()", literal, touch, following, MinIntGuard::verdict);
            sameAfter(when + "asInt()", literal, touch, following, MinIntGuard::asInt);
        }
    }

    private void sameAfter(String told, String literal, Consumer<MinIntGuard> touch, String following,
            ToIntFunction<MinIntGuard> reading) {
        MinIntGuard touched = fed(literal);
        MinIntGuard plain = fed(literal);
        touch.accept(touched);
        for (char c : following.toCharArray()) {
            due(told + ", before it " + c, feed(touched, c), feed(plain, c));
        }
        due(told, reading.applyAsInt(touched), reading.applyAsInt(plain));
    }

    static int feed(MinIntGuard x, char c) {
        return c == '-' ? x.minus() : x.digit(c - '0');
    }

    /** A guard fed with "-" as minus() and each decimal digit as digit(d). */
    static MinIntGuard fed(String literal) {
        MinIntGuard x = new MinIntGuard();
        for (char c : literal.toCharArray()) {
            feed(x, c);
        }
        return x;
    }

    void end() {
        System.out.println(wrong == 0
            ? "all " + seen + " answers are as due"
            : wrong + " of " + seen + " answers are not as due");
        if (wrong != 0) {
            System.exit(1);
        }
    }
}
