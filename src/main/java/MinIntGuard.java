/** Range check of a decimal int literal that may follow a unary minus. */
public final class MinIntGuard {
    private static final int DONE = 0;
    private static final int REFUSED = 1;
    private static final int TOO_LARGE = 2;

    private static final int IN_RANGE = 0;
    private static final int OUT_OF_RANGE = 1;

    private static final long LARGEST_WITHOUT_MINUS = 2147483647L;
    private static final long LARGEST_WITH_MINUS = 2147483648L;
    // One above all that can be in range: ten times this is still far inside
    // a long, so holding the magnitude here keeps digit() from wrapping around.
    private static final long SATURATED = 2147483649L;

    private long magnitude;
    private boolean minusSeen;
    // Kept apart from the magnitude, because leading zeros leave that at 0
    // and yet close the place of the minus sign.
    private boolean started;

    public MinIntGuard() {
        magnitude = 0L;
        minusSeen = false;
        started = false;
    }

    public int minus() {
        if (minusSeen || started) {
            return REFUSED;
        }
        minusSeen = true;
        return DONE;
    }

    public int digit(int d) {
        if (d < 0 || d > 9) {
            return REFUSED;
        }
        started = true;
        long next = magnitude * 10L + d;
        if (next > LARGEST_WITH_MINUS) {
            magnitude = SATURATED;
            return TOO_LARGE;
        }
        magnitude = next;
        return DONE;
    }

    public int verdict() {
        long largest = minusSeen ? LARGEST_WITH_MINUS : LARGEST_WITHOUT_MINUS;
        return magnitude <= largest ? IN_RANGE : OUT_OF_RANGE;
    }

    public int asInt() {
        // The cast and the negation wrap around on purpose: an answer is due
        // for literals out of range too.
        int low = (int) magnitude;
        return minusSeen ? -low : low;
    }
}
