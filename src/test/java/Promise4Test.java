/** Promise 4: verdict() tells whether the literal is in range. */
public final class Promise4Test {
    private static final Checks checks = new Checks();

    public static void main(String[] args) {
        due("", 0);
        due("-", 0);
        due("0", 0);
        due("-0", 0);
        due("1", 0);
        due("-1", 0);
        due("1000000000", 0);
        due("-1000000000", 0);
        due("2147483646", 0);
        due("-2147483646", 0);
        due("2147483647", 0);
        due("-2147483647", 0);
        due("2147483648", 1);
        due("-2147483648", 0);
        due("00002147483648", 1);
        due("-00002147483648", 0);
        due("2147483649", 1);
        due("-2147483649", 1);
        due("4294967296", 1);
        due("-4294967296", 1);
        due("21474836480", 1);
        due("-21474836480", 1);
        due("18446744073709551616", 1);
        due("-18446744073709551616", 1);
        // A minus that came too late doesn't count.
        due("2147483648-", 1);
        due("0-2147483648", 1);
        changesNothing();
        checks.end();
    }

    private static void due(String literal, int want) {
        MinIntGuard x = Checks.fed(literal);
        for (int round = 1; round <= 3; round++) {
            checks.due("'" + literal + "': verdict(), round " + round, x.verdict(), want);
        }
    }

    private static void changesNothing() {
        MinIntGuard x = new MinIntGuard();
        x.verdict();
        checks.due("minus() after verdict()", x.minus(), 0);
        x.verdict();
        checks.due("minus() after minus() and verdict()", x.minus(), 1);
        for (char c : "2147483648".toCharArray()) {
            x.verdict();
            checks.due("digit(" + c + ") after verdict()", x.digit(c - '0'), 0);
        }
        checks.state("-2147483648 with verdicts between", x, 0, -2147483648);
        checks.due("digit(0) after verdict()", x.digit(0), 2);
        checks.state("-21474836480 with verdicts between", x, 1, 2147483647);
    }
}
