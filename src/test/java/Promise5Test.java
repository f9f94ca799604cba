/** Promise 5: asInt() gives the int value. A method for each edge that it names. */
public final class Promise5Test {
    private static final Checks checks = new Checks();

    public static void main(String[] args) {
        inRangeUpToLargest();
        zeroEitherWay();
        edge();
        saturated();
        noDigitYet();
        refusedMinusDoesNotCount();
        sameAnswerAgain();
        changesNothing();
        checks.end();
    }

    // "Magnitude m from 0 to 2147483647: the answer is m without a minus, and -m with a minus."
    private static void inRangeUpToLargest() {
        for (int m : new int[] {1, 7, 10, 12, 1234567890, 2147483646, 2147483647}) {
            due("" + m, m);
            due("-" + m, -m);
            due("00" + m, m);
            due("-00" + m, -m);
        }
    }

    // "In particular magnitude 0 gives 0 either way."
    private static void zeroEitherWay() {
        due("0", 0);
        due("-0", 0);
        due("000", 0);
        due("-000", 0);
    }

    // "Magnitude 2147483648: ... Without a minus the answer is -2147483648; with a minus, negating
    // -2147483648 in int arithmetic gives -2147483648 again"
    private static void edge() {
        due("2147483648", -2147483648);
        due("-2147483648", -2147483648);
    }

    // "Saturated magnitude 2147483649: ... Without a minus the answer is -2147483647; with a minus
    // the answer is 2147483647." The digits beyond no longer count.
    private static void saturated() {
        String[] literals = {
            "2147483649", "2147483650", "4294967295", "4294967296", "21474836480",
            "18446744073709551616", "99999999999999999999999",
        };
        for (String digits : literals) {
            due(digits, -2147483647);
            due("-" + digits, 2147483647);
        }
    }

    // "With no digit yet the answer is 0."
    private static void noDigitYet() {
        due("", 0);
        due("-", 0);
        due("--", 0);
        MinIntGuard x = new MinIntGuard();
        x.digit(-1);
        x.digit(10);
        checks.due("only refused digits: asInt()", x.asInt(), 0);
    }

    // "if the minus flag is set": a minus that was refused neither sets it nor takes it back.
    private static void refusedMinusDoesNotCount() {
        due("5-", 5);
        due("0-5", 5);
        due("--5", -5);
        due("-5-", -5);
    }

    // "Calling asInt() any number of times gives the same answer as long as no other method
    // changes the state in between."
    private static void sameAnswerAgain() {
        for (String literal : Checks.LITERALS) {
            MinIntGuard x = Checks.fed(literal);
            int first = x.asInt();
            for (int i = 2; i <= 100; i++) {
                checks.due("'" + literal + "': asInt() number " + i, x.asInt(), first);
            }
            x.verdict();
            x.digit(10);
            checks.due("'" + literal + "': asInt() after calls that change nothing", x.asInt(), first);
        }
    }

    // "changes nothing"
    private static void changesNothing() {
        for (String literal : Checks.LITERALS) {
            checks.changesNothing(literal, "asInt()", MinIntGuard::asInt);
        }
    }

    private static void due(String literal, int want) {
        checks.due("'" + literal + "': asInt()", Checks.fed(literal).asInt(), want);
    }
}
