/** Promise 4: verdict() tells whether the literal is in range. A method for each edge that it names. */
public final class Promise4Test {
    private static final Checks checks = new Checks();

    public static void main(String[] args) {
        inRangeUpToLargest();
        edgeWithMinus();
        edgeWithoutMinus();
        saturated();
        noDigitYet();
        startedFlagDoesNotCount();
        lateMinusDoesNotCount();
        sameAnswerAgain();
        changesNothing();
        checks.end();
    }

    // "If the magnitude is at most 2147483647, it answers 0."
    private static void inRangeUpToLargest() {
        for (String digits : new String[] {"1", "9", "10", "1000000000", "2147483646", "2147483647"}) {
            due(digits, 0);
            due("-" + digits, 0);
            due("000" + digits, 0);
            due("-000" + digits, 0);
        }
    }

    // "If the magnitude equals 2147483648 and the minus flag is set, it answers 0."
    private static void edgeWithMinus() {
        due("-2147483648", 0);
        due("-00002147483648", 0);
    }

    // "Otherwise it answers 1. That is: magnitude 2147483648 without a minus"
    private static void edgeWithoutMinus() {
        due("2147483648", 1);
        due("00002147483648", 1);
    }

    // "or the saturated magnitude 2147483649 with or without a minus". Among the literals are
    // some whose low 32 or 64 bits would be in range.
    private static void saturated() {
        String[] literals = {
            "2147483649", "2147483650", "4294967295", "4294967296", "21474836480", "18446744073709551616",
        };
        for (String digits : literals) {
            due(digits, 1);
            due("-" + digits, 1);
        }
    }

    // "With no digit yet the magnitude is 0, so the answer is 0; this holds whether or not a minus
    // has been recorded."
    private static void noDigitYet() {
        due("", 0);
        due("-", 0);
        due("--", 0);
        MinIntGuard x = new MinIntGuard();
        x.digit(-1);
        x.digit(10);
        checks.due("only refused digits: verdict()", x.verdict(), 0);
    }

    // "The answer depends only on the magnitude and the minus flag, not on the started flag."
    private static void startedFlagDoesNotCount() {
        due("0", 0);
        due("-0", 0);
        due("0000000000000", 0);
        due("-0000000000000", 0);
    }

    // A refused minus does not set the minus flag that the edge asks for.
    private static void lateMinusDoesNotCount() {
        due("2147483648-", 1);
        due("0-2147483648", 1);
    }

    // "Calling verdict() any number of times gives the same answer as long as no other method
    // changes the state in between."
    private static void sameAnswerAgain() {
        for (String literal : Checks.LITERALS) {
            MinIntGuard x = Checks.fed(literal);
            int first = x.verdict();
            for (int i = 2; i <= 100; i++) {
                checks.due("'" + literal + "': verdict() number " + i, x.verdict(), first);
            }
            x.asInt();
            x.digit(10);
            checks.due("'" + literal + "': verdict() after calls that change nothing", x.verdict(), first);
        }
    }

    // "changes nothing"
    private static void changesNothing() {
        for (String literal : Checks.LITERALS) {
            checks.changesNothing(literal, "verdict()", MinIntGuard::verdict);
        }
    }

    private static void due(String literal, int want) {
        checks.due("'" + literal + "': verdict()", Checks.fed(literal).verdict(), want);
    }
}
