/** Promise 2: minus() records a leading minus sign. */
public final class Promise2Test {
    private static final Checks checks = new Checks();

    public static void main(String[] args) {
        acceptedOnceBeforeDigits();
        refusedAfterDigit();
        refusedAfterLeadingZero();
        acceptedAfterRefusedDigits();
        refusedWhenLarge();
        doesNotStart();
        checks.end();
    }

    private static void acceptedOnceBeforeDigits() {
        MinIntGuard x = new MinIntGuard();
        checks.due("minus()", x.minus(), 0);
        checks.state("after minus()", x, 0, 0);
        for (int i = 2; i <= 5; i++) {
            checks.due("minus() number " + i, x.minus(), 1);
        }
        // A refused minus must not take the sign back.
        checks.due("digit(5)", x.digit(5), 0);
        checks.state("-5", x, 0, -5);
        checks.due("minus() after -5", x.minus(), 1);
        checks.state("-5 and a refused minus", x, 0, -5);
    }

    private static void refusedAfterDigit() {
        MinIntGuard x = Checks.fed("42");
        checks.due("minus() after 42", x.minus(), 1);
        checks.due("minus() after 42, again", x.minus(), 1);
        checks.state("42 and refused minuses", x, 0, 42);
        checks.due("digit(1)", x.digit(1), 0);
        checks.state("421", x, 0, 421);
    }

    private static void refusedAfterLeadingZero() {
        MinIntGuard x = Checks.fed("0");
        checks.due("minus() after 0", x.minus(), 1);
        checks.due("digit(6)", x.digit(6), 0);
        checks.state("06", x, 0, 6);
    }

    private static void acceptedAfterRefusedDigits() {
        MinIntGuard x = new MinIntGuard();
        for (int d : new int[] {-1, 10, Integer.MIN_VALUE, Integer.MAX_VALUE}) {
            checks.due("digit(" + d + ")", x.digit(d), 1);
        }
        checks.due("minus() after refused digits", x.minus(), 0);
        checks.due("digit(-1)", x.digit(-1), 1);
        checks.due("minus() after minus and a refused digit", x.minus(), 1);
        checks.due("digit(3)", x.digit(3), 0);
        checks.state("-3", x, 0, -3);
    }

    private static void refusedWhenLarge() {
        MinIntGuard edge = Checks.fed("2147483648");
        checks.due("minus() after 2147483648", edge.minus(), 1);
        checks.state("2147483648 and a refused minus", edge, 1, -2147483648);
        MinIntGuard saturated = Checks.fed("2147483649");
        checks.due("minus() after saturation", saturated.minus(), 1);
        checks.state("saturated and a refused minus", saturated, 1, -2147483647);
        MinIntGuard negative = Checks.fed("-2147483649");
        checks.due("minus() after negative saturation", negative.minus(), 1);
        checks.state("negative, saturated and a refused minus", negative, 1, 2147483647);
    }

    private static void doesNotStart() {
        MinIntGuard x = new MinIntGuard();
        x.minus();
        checks.due("digit(0) after minus", x.digit(0), 0);
        checks.state("-0", x, 0, 0);
        checks.due("minus() after -0", x.minus(), 1);
    }
}
