/** Promise 3: digit(d) adds one decimal digit. A method for each edge that it names. */
public final class Promise3Test {
    private static final Checks checks = new Checks();
    // Beside the document's examples: the characters '0' and '9', and numbers that would pass
    // for digits if only their low bits or their size without sign were looked at.
    private static final int[] NOT_DIGITS = {
        -1, 10, Integer.MIN_VALUE, Integer.MAX_VALUE,
        -2, -9, -10, 11, 48, 57, 255, 256, 261, 65536, -65536, 65541, -65531, 1 << 30,
        Integer.MIN_VALUE + 1, Integer.MIN_VALUE + 5, Integer.MAX_VALUE - 1,
    };

    public static void main(String[] args) {
        outOfRangeChangesNothing();
        outOfRangeDoesNotStart();
        outOfRangeAllOver();
        for (String sign : new String[] {"", "-"}) {
            everyDigitIsAdded(sign);
            leadingZeros(sign);
            reachesEdgeWithoutSaturation(sign);
            fullAtEdge(sign);
            lastDigitAtEdge(sign);
            saturatesFarAbove(sign);
            staysSaturated(sign);
            outOfRangeWhenSaturated(sign);
            neverWrapsAround(sign);
        }
        everyDigitStarts();
        staysStarted();
        keepsMinusFlag();
        checks.end();
    }

    // "If d < 0 or d > 9 ..., it answers 1 and changes nothing: the magnitude stays, the minus
    // flag stays"
    private static void outOfRangeChangesNothing() {
        for (String literal : Checks.LITERALS) {
            for (int d : NOT_DIGITS) {
                String call = "digit(" + d + ")";
                checks.due("'" + literal + "', " + call, Checks.fed(literal).digit(d), 1);
                checks.changesNothing(literal, call, x -> x.digit(d));
            }
        }
    }

    // "and the started flag is not set"
    private static void outOfRangeDoesNotStart() {
        for (int d : NOT_DIGITS) {
            MinIntGuard x = new MinIntGuard();
            x.digit(d);
            checks.due("digit(" + d + "), minus()", x.minus(), 0);
        }
    }

    // "Every int value of d is allowed as argument." All of them would take too long: those near
    // the ends of each range, and a prime stride between, so that the low bits vary.
    private static void outOfRangeAllOver() {
        MinIntGuard x = Checks.fed("-5");
        for (int i = 0; i < 100000; i++) {
            refuses(x, -1 - i);
            refuses(x, 10 + i);
            refuses(x, Integer.MIN_VALUE + i);
            refuses(x, Integer.MAX_VALUE - i);
        }
        for (long d = Integer.MIN_VALUE; d <= Integer.MAX_VALUE; d += 65521) {
            if (d < 0 || d > 9) {
                refuses(x, (int) d);
            }
        }
        checks.state("-5 and refused digits", x, 0, -5);
    }

    private static void refuses(MinIntGuard x, int d) {
        checks.due("digit(" + d + ")", x.digit(d), 1);
    }

    // "Otherwise the magnitude becomes next and the answer is 0."
    private static void everyDigitIsAdded(String sign) {
        for (int d = 0; d <= 9; d++) {
            MinIntGuard x = Checks.fed(sign + "12345678");
            checks.due(sign + "12345678, digit(" + d + ")", x.digit(d), 0);
            checks.state(sign + "12345678" + d, x, 0, signed(sign, 123456780 + d));
        }
    }

    // "Leading zeros are accepted: digit(0) on magnitude 0 answers 0, keeps magnitude 0, and sets
    // the started flag."
    private static void leadingZeros(String sign) {
        MinIntGuard one = Checks.fed(sign);
        checks.due(sign + ", digit(0)", one.digit(0), 0);
        checks.due(sign + "0, minus()", one.minus(), 1);
        MinIntGuard x = Checks.fed(sign);
        for (int i = 1; i <= 100; i++) {
            checks.due(sign + " zero number " + i, x.digit(0), 0);
            checks.state(sign + " zeros " + i, x, 0, 0);
        }
        checks.due("minus() after zeros", x.minus(), 1);
        feed(x, sign + "zeros and ", "2147483647");
        checks.state(sign + "zeros and 2147483647", x, 0, signed(sign, 2147483647));
    }

    // "Reaching exactly 2147483648 ... is not saturation: every one of those digits answers 0 and
    // the magnitude is 2147483648."
    private static void reachesEdgeWithoutSaturation(String sign) {
        for (String zeros : new String[] {"", "0", "0000000000"}) {
            MinIntGuard x = Checks.fed(sign + zeros);
            feed(x, sign + zeros, "2147483648");
            checks.state(sign + zeros + "2147483648", x, sign.isEmpty() ? 1 : 0, -2147483648);
        }
    }

    // "From magnitude 2147483648, any further accepted digit, even 0, gives a next above
    // 2147483648, so it answers 2 and saturates."
    private static void fullAtEdge(String sign) {
        for (int d = 0; d <= 9; d++) {
            saturates(sign, "2147483648", d);
            saturates(sign, "2147483647", d);
        }
    }

    // "From magnitude 214748364, digit(8) answers 0 (magnitude 2147483648) and digit(9) answers 2
    // (saturated)."
    private static void lastDigitAtEdge(String sign) {
        for (int d = 0; d <= 7; d++) {
            MinIntGuard x = Checks.fed(sign + "214748364");
            checks.due(sign + "214748364, digit(" + d + ")", x.digit(d), 0);
            checks.state(sign + "214748364" + d, x, 0, signed(sign, 2147483640 + d));
        }
        MinIntGuard edge = Checks.fed(sign + "214748364");
        checks.due(sign + "214748364, digit(8)", edge.digit(8), 0);
        checks.state(sign + "2147483648", edge, sign.isEmpty() ? 1 : 0, -2147483648);
        saturates(sign, "214748364", 9);
    }

    // "If next > 2147483648, the magnitude becomes 2147483649 and the answer is 2."
    private static void saturatesFarAbove(String sign) {
        for (int d = 0; d <= 9; d++) {
            saturates(sign, "214748365", d);
            saturates(sign, "429496729", d);
            saturates(sign, "999999999", d);
        }
    }

    private static void saturates(String sign, String digits, int d) {
        MinIntGuard x = Checks.fed(sign + digits);
        checks.due(sign + digits + ", digit(" + d + ")", x.digit(d), 2);
        checks.state(sign + digits + d, x, 1, signed(sign, -2147483647));
    }

    // "Once the magnitude is saturated it stays saturated: every later accepted digit (any d from
    // 0 to 9) answers 2 again and leaves the magnitude at 2147483649."
    private static void staysSaturated(String sign) {
        for (int d = 0; d <= 9; d++) {
            MinIntGuard x = Checks.fed(sign + "2147483649");
            for (int i = 1; i <= 3; i++) {
                checks.due(sign + "saturated, digit(" + d + ") number " + i, x.digit(d), 2);
                checks.state(sign + "saturated, digit(" + d + ")", x, 1, signed(sign, -2147483647));
            }
        }
    }

    // "Out-of-range digits still answer 1 in the saturated state, as always."
    private static void outOfRangeWhenSaturated(String sign) {
        MinIntGuard x = Checks.fed(sign + "2147483649");
        for (int d : NOT_DIGITS) {
            checks.due(sign + "saturated, digit(" + d + ")", x.digit(d), 1);
            checks.due(sign + "saturated, digit(0)", x.digit(0), 2);
            checks.state(sign + "saturated", x, 1, signed(sign, -2147483647));
        }
    }

    // "The magnitude never exceeds 2147483649, so the long computation of next never wraps
    // around." Long enough for a magnitude that were not held to wrap a long many times.
    private static void neverWrapsAround(String sign) {
        MinIntGuard x = Checks.fed(sign + "9999999999");
        for (int i = 0; i < 2000; i++) {
            int d = i < 1000 ? 0 : i % 10;
            checks.due(sign + "digit(" + d + ") number " + i + " above", x.digit(d), 2);
            checks.state(sign + "digits above, " + i, x, 1, signed(sign, -2147483647));
        }
    }

    // "The started flag is set"
    private static void everyDigitStarts() {
        for (int d = 0; d <= 9; d++) {
            MinIntGuard x = new MinIntGuard();
            x.digit(d);
            checks.due("digit(" + d + "), minus()", x.minus(), 1);
        }
    }

    // "it stays set from then on; setting it again has no further effect"
    private static void staysStarted() {
        MinIntGuard x = new MinIntGuard();
        String fed = "";
        for (char c : "00214748364899".toCharArray()) {
            x.digit(c - '0');
            fed += c;
            checks.due(fed + ", minus()", x.minus(), 1);
            x.digit(-1);
            x.digit(10);
            checks.due(fed + ", refused digits, minus()", x.minus(), 1);
        }
        checks.state("started once, saturated, and no minus", x, 1, -2147483647);
    }

    // "digit never changes the minus flag." On the way up to the edge and beyond it, for each
    // digit that can come next.
    private static void keepsMinusFlag() {
        for (String literal : Checks.LITERALS) {
            boolean minus = literal.startsWith("-");
            for (int d = 0; d <= 9; d++) {
                MinIntGuard x = Checks.fed(literal);
                x.digit(d);
                long held = Long.parseLong("0" + literal.replace("-", "") + d);
                int low = (int) Math.min(held, 2147483649L);
                checks.due("'" + literal + "', " + d + ": asInt()", x.asInt(), minus ? -low : low);
            }
        }
    }

    private static void feed(MinIntGuard x, String before, String digits) {
        for (int i = 0; i < digits.length(); i++) {
            int d = digits.charAt(i) - '0';
            checks.due(before + digits.substring(0, i) + ", digit(" + d + ")", x.digit(d), 0);
        }
    }

    private static int signed(String sign, int value) {
        return sign.isEmpty() ? value : -value;
    }
}
