/** Promise 1: construction and the starting state. */
public final class Promise1Test {
    private static final Checks checks = new Checks();

    public static void main(String[] args) {
        freshObject();
        separateObjects();
        checks.end();
    }

    private static void freshObject() {
        checks.state("fresh", new MinIntGuard(), 0, 0);
        checks.due("fresh: minus()", new MinIntGuard().minus(), 0);
        for (int d = 0; d <= 9; d++) {
            MinIntGuard x = new MinIntGuard();
            checks.due("fresh: digit(" + d + ")", x.digit(d), 0);
            checks.state("fresh, then " + d, x, 0, d);
        }
    }

    private static void separateObjects() {
        MinIntGuard untouched = new MinIntGuard();
        MinIntGuard negative = Checks.fed("-12");
        MinIntGuard saturated = Checks.fed("99999999999");
        checks.state("saturated beside others", saturated, 1, -2147483647);
        checks.state("negative beside others", negative, 0, -12);
        checks.state("untouched beside others", untouched, 0, 0);
        checks.due("negative: digit(3)", negative.digit(3), 0);
        checks.state("negative after its next digit", negative, 0, -123);
        checks.due("untouched: minus()", untouched.minus(), 0);
        checks.due("untouched: digit(7)", untouched.digit(7), 0);
        checks.state("untouched after its own calls", untouched, 0, -7);
        checks.state("made after others", new MinIntGuard(), 0, 0);
        checks.due("made after others: minus()", new MinIntGuard().minus(), 0);
    }
}
