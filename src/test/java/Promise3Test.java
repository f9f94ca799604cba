/** Promise 3: digit(d) adds one decimal digit. */
public final class Promise3Test {
    private static final Checks checks = new Checks();
    private static final int[] NOT_DIGITS = {
        -1, -2, -9, -10, 10, 11, 48, 57, 255, 256, 65536, -65536, 1 << 30,
        Integer.MIN_VALUE, Integer.MIN_VALUE + 1, Integer.MAX_VALUE - 1, Integer.MAX_VALUE,
    };

    public static void main(String[] args) {
        for (String sign : new String[] {"", "-"}) {
            refusesOutOfRange(sign);
            leadingZeros(sign);
            reachesEdgeWithoutSaturation(sign);
            lastDigitAtEdge(sign);
            fullAtEdge(sign);
            staysSaturated(sign);
        }
        checks.end();
    }

    private static void refusesOutOfRange(String sign) {
        String[] literals = {"", "0", "7", "214748364", "2147483647", "2147483648", "2147483649"};
        for (String literal : literals) {
            MinIntGuard x = Checks.fed(sign + literal);
            int verdict = x.verdict();
            int asInt = x.asInt();
            for (int d : NOT_DIGITS) {
                String call = sign + literal + ", digit(" + d + ")";
                checks.due(call, x.digit(d), 1);
                checks.state(call, x, verdict, asInt);
            }
        }
    }

    private static void leadingZeros(String sign) {
        MinIntGuard x = Checks.fed(sign);
        for (int i = 1; i <= 100; i++) {
            checks.due(sign + " zero number " + i, x.digit(0), 0);
            checks.state(sign + " zeros " + i, x, 0, 0);
        }
        checks.due("minus() after zeros", x.minus(), 1);
        feed(x, sign + "zeros and ", "2147483647", 0);
        checks.state(sign + "zeros and 2147483647", x, 0, signed(sign, 2147483647));
    }

    private static void reachesEdgeWithoutSaturation(String sign) {
        MinIntGuard x = Checks.fed(sign);
        feed(x, sign, "2147483648", 0);
        checks.state(sign + "2147483648", x, sign.isEmpty() ? 1 : 0, -2147483648);
    }

    private static void lastDigitAtEdge(String sign) {
        for (int d = 0; d <= 9; d++) {
            MinIntGuard x = Checks.fed(sign + "214748364");
            checks.due(sign + "214748364, digit(" + d + ")", x.digit(d), d == 9 ? 2 : 0);
            MinIntGuard above = Checks.fed(sign + "214748365");
            checks.due(sign + "214748365, digit(" + d + ")", above.digit(d), 2);
            checks.state(sign + "214748365" + d, above, 1, signed(sign, -2147483647));
        }
    }

    private static void fullAtEdge(String sign) {
        for (int d = 0; d <= 9; d++) {
            for (String full : new String[] {"2147483647", "2147483648"}) {
                MinIntGuard x = Checks.fed(sign + full);
                checks.due(sign + full + ", digit(" + d + ")", x.digit(d), 2);
                checks.state(sign + full + d, x, 1, signed(sign, -2147483647));
            }
        }
    }

    // Long enough for a magnitude that were not held to wrap a long many times.
    private static void staysSaturated(String sign) {
        MinIntGuard x = Checks.fed(sign + "9999999999");
        checks.state(sign + "9999999999", x, 1, signed(sign, -2147483647));
        for (int i = 0; i < 2000; i++) {
            int d = i < 1000 ? 0 : i % 10;
            checks.due(sign + "saturated, digit(" + d + ")", x.digit(d), 2);
            checks.due(sign + "saturated, digit(10)", x.digit(10), 1);
            checks.state(sign + "saturated, " + i, x, 1, signed(sign, -2147483647));
        }
    }

    private static void feed(MinIntGuard x, String before, String digits, int answer) {
        for (int i = 0; i < digits.length(); i++) {
            int d = digits.charAt(i) - '0';
            checks.due(before + digits.substring(0, i) + ", digit(" + d + ")", x.digit(d), answer);
        }
    }

    private static int signed(String sign, int value) {
        return sign.isEmpty() ? value : -value;
    }
}
