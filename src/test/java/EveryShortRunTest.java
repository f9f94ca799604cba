import java.math.BigInteger;

/**
 * Every run of up to five calls, from the start and from just below the edge,
 * against a reading of the whole literal in numbers without bound.
 */
public final class EveryShortRunTest {
    private static final Checks checks = new Checks();
    private static final BigInteger EDGE = BigInteger.TWO.pow(31);
    private static final BigInteger SATURATED = EDGE.add(BigInteger.ONE);
    private static final int MINUS = 100;
    private static final int[] CALLS = {MINUS, 0, 1, 3, 4, 7, 8, 9, -1, 10};
    private static final int LENGTH = 5;

    public static void main(String[] args) {
        for (String start : new String[] {"", "21474836", "-21474836", "0021474836", "-2147483648"}) {
            for (int run = 0; run < (int) Math.pow(CALLS.length, LENGTH); run++) {
                follow(start, run);
            }
        }
        checks.end();
    }

    private static void follow(String start, int run) {
        MinIntGuard x = Checks.fed(start);
        boolean minus = start.startsWith("-");
        String digits = start.replace("-", "");
        int rest = run;
        for (int i = 0; i < LENGTH; i++) {
            int call = CALLS[rest % CALLS.length];
            rest /= CALLS.length;
            String told = "'" + start + "', run " + run + ", call " + i + " (" + call + ")";
            if (call == MINUS) {
                boolean accepted = !minus && digits.isEmpty();
                minus = minus || accepted;
                checks.due(told, x.minus(), accepted ? 0 : 1);
            } else if (call < 0 || call > 9) {
                checks.due(told, x.digit(call), 1);
            } else {
                digits += call;
                checks.due(told, x.digit(call), value(digits).compareTo(EDGE) > 0 ? 2 : 0);
            }
            checks.due(told + ", verdict()", x.verdict(), verdict(digits, minus));
            checks.due(told + ", asInt()", x.asInt(), asInt(digits, minus));
        }
    }

    private static BigInteger value(String digits) {
        return new BigInteger("0" + digits);
    }

    private static int verdict(String digits, boolean minus) {
        BigInteger signed = minus ? value(digits).negate() : value(digits);
        return signed.bitLength() <= 31 ? 0 : 1;
    }

    private static int asInt(String digits, boolean minus) {
        BigInteger held = value(digits).min(SATURATED);
        return (minus ? held.negate() : held).intValue();
    }
}
