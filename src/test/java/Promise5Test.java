/** Promise 5: asInt() gives the int value. */
public final class Promise5Test {
    private static final Checks checks = new Checks();

    public static void main(String[] args) {
        due("", 0);
        due("-", 0);
        due("0", 0);
        due("-0", 0);
        due("7", 7);
        due("-7", -7);
        due("0012", 12);
        due("-0012", -12);
        due("1234567890", 1234567890);
        due("-1234567890", -1234567890);
        due("2147483647", 2147483647);
        due("-2147483647", -2147483647);
        due("2147483648", -2147483648);
        due("-2147483648", -2147483648);
        due("2147483649", -2147483647);
        due("-2147483649", 2147483647);
        // Saturated: the digits beyond the edge no longer count.
        due("2147483650", -2147483647);
        due("-2147483650", 2147483647);
        due("4294967296", -2147483647);
        due("-4294967296", 2147483647);
        due("99999999999999999999999", -2147483647);
        due("-99999999999999999999999", 2147483647);
        due("5-", 5);
        due("--5", -5);
        changesNothing();
        checks.end();
    }

    private static void due(String literal, int want) {
        MinIntGuard x = Checks.fed(literal);
        for (int round = 1; round <= 3; round++) {
            checks.due("'" + literal + "': asInt(), round " + round, x.asInt(), want);
        }
    }

    private static void changesNothing() {
        MinIntGuard x = new MinIntGuard();
        x.asInt();
        checks.due("minus() after asInt()", x.minus(), 0);
        x.asInt();
        checks.due("minus() after minus() and asInt()", x.minus(), 1);
        int[] prefixes = {-2, -21, -214, -2147, -21474, -214748, -2147483, -21474836, -214748364, -2147483648};
        for (int prefix : prefixes) {
            int d = (int) (-(long) prefix % 10);
            checks.due("digit(" + d + ") after asInt()", x.digit(d), 0);
            checks.due("asInt()", x.asInt(), prefix);
            checks.due("verdict() after asInt()", x.verdict(), 0);
        }
        checks.due("digit(0) after asInt()", x.digit(0), 2);
        checks.state("-21474836480 with asInt between", x, 1, 2147483647);
    }
}
