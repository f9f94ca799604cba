/** Promise 2: minus() records a leading minus sign. A method for each edge that it names. */
public final class Promise2Test {
    private static final Checks checks = new Checks();

    public static void main(String[] args) {
        acceptedWithNeitherFlag();
        refusedWhenSet();
        refusedAfterAnyDigit();
        refusedAfterLeadingZeros();
        refusedAtTheEdge();
        refusedChangesNothing();
        keepsMagnitude();
        acceptedAfterOnlyRefusedDigits();
        refusedAfterRefusedDigitsWhenSet();
        checks.end();
    }

    // "Otherwise (neither flag set), it sets the minus flag and answers 0."
    private static void acceptedWithNeitherFlag() {
        MinIntGuard x = new MinIntGuard();
        checks.due("minus()", x.minus(), 0);
        checks.state("after minus()", x, 0, 0);
        checks.due("digit(5)", x.digit(5), 0);
        checks.state("-5", x, 0, -5);
    }

    // "If the minus flag is already set, it answers 1 and changes nothing."
    private static void refusedWhenSet() {
        MinIntGuard x = new MinIntGuard();
        x.minus();
        for (int i = 2; i <= 5; i++) {
            checks.due("minus() number " + i, x.minus(), 1);
        }
        // A refused minus must not take the sign back.
        checks.due("digit(5)", x.digit(5), 0);
        checks.state("-5", x, 0, -5);
        checks.due("minus() after -5", x.minus(), 1);
        checks.state("-5 and a refused minus", x, 0, -5);
    }

    // "If the started flag is set (at least one digit has been accepted), it answers 1 and
    // changes nothing."
    private static void refusedAfterAnyDigit() {
        for (int d = 0; d <= 9; d++) {
            MinIntGuard x = Checks.fed("" + d);
            checks.due("minus() after " + d, x.minus(), 1);
            checks.due("minus() after " + d + ", again", x.minus(), 1);
            checks.state(d + " and refused minuses", x, 0, d);
            checks.due(d + ", digit(1)", x.digit(1), 0);
            checks.state(d + " and 1", x, 0, 10 * d + 1);
        }
    }

    // A zero is an accepted digit, though the magnitude stays 0.
    private static void refusedAfterLeadingZeros() {
        MinIntGuard x = Checks.fed("000");
        checks.due("minus() after 000", x.minus(), 1);
        checks.due("digit(6)", x.digit(6), 0);
        checks.state("0006", x, 0, 6);
    }

    // "a minus() after an accepted digit, is refused with answer 1": however large it has grown.
    private static void refusedAtTheEdge() {
        refused("2147483647", 0, 2147483647);
        refused("-2147483647", 0, -2147483647);
        refused("2147483648", 1, -2147483648);
        refused("-2147483648", 0, -2147483648);
        refused("2147483649", 1, -2147483647);
        refused("-2147483649", 1, 2147483647);
    }

    private static void refused(String literal, int verdict, int asInt) {
        MinIntGuard x = Checks.fed(literal);
        checks.due("minus() after " + literal, x.minus(), 1);
        checks.state(literal + " and a refused minus", x, verdict, asInt);
    }

    // "and leaves the magnitude, the minus flag and the started flag exactly as they were"
    private static void refusedChangesNothing() {
        for (String literal : Checks.LITERALS) {
            if (!literal.isEmpty()) {
                checks.changesNothing(literal, "refused minus()", MinIntGuard::minus);
            }
        }
    }

    // "minus() never changes the magnitude and never changes the started flag." The started flag
    // cannot be seen behind a minus: every later minus() is refused either way.
    private static void keepsMagnitude() {
        for (int d = 0; d <= 9; d++) {
            MinIntGuard x = new MinIntGuard();
            x.minus();
            checks.due("minus, digit(" + d + ")", x.digit(d), 0);
            checks.state("-" + d, x, 0, -d);
        }
    }

    // "A refused digit (see Promise 3) does not set the started flag, so minus() is still accepted
    // after only refused digits"
    private static void acceptedAfterOnlyRefusedDigits() {
        MinIntGuard x = new MinIntGuard();
        for (int d : new int[] {-1, 10, Integer.MIN_VALUE, Integer.MAX_VALUE}) {
            x.digit(d);
            MinIntGuard one = new MinIntGuard();
            one.digit(d);
            checks.due("minus() after digit(" + d + ")", one.minus(), 0);
        }
        checks.due("minus() after refused digits", x.minus(), 0);
        checks.due("digit(3)", x.digit(3), 0);
        checks.state("-3", x, 0, -3);
    }

    // "provided the minus flag is not yet set"
    private static void refusedAfterRefusedDigitsWhenSet() {
        for (int d : new int[] {-1, 10, Integer.MIN_VALUE, Integer.MAX_VALUE}) {
            MinIntGuard x = new MinIntGuard();
            x.minus();
            x.digit(d);
            checks.due("minus() after minus and digit(" + d + ")", x.minus(), 1);
            checks.due("digit(3)", x.digit(3), 0);
            checks.state("-3", x, 0, -3);
        }
    }
}
