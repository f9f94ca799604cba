/** Promise 1: construction and the starting state. A method for each edge that it names. */
public final class Promise1Test {
    private static final Checks checks = new Checks();

    public static void main(String[] args) {
        freshReadings();
        freshMinusIsAccepted();
        freshDigitsAreAccepted();
        separateObjectsShareNothing();
        laterObjectsStartFresh();
        checks.end();
    }

    // "verdict() answers 0; asInt() answers 0"
    private static void freshReadings() {
        checks.due("fresh: verdict() first", new MinIntGuard().verdict(), 0);
        checks.due("fresh: asInt() first", new MinIntGuard().asInt(), 0);
        checks.state("fresh", new MinIntGuard(), 0, 0);
    }

    // "minus() would be accepted (answer 0)"
    private static void freshMinusIsAccepted() {
        checks.due("fresh: minus()", new MinIntGuard().minus(), 0);
    }

    // "digit(d) for d from 0 to 9 would be accepted"
    private static void freshDigitsAreAccepted() {
        for (int d = 0; d <= 9; d++) {
            MinIntGuard x = new MinIntGuard();
            checks.due("fresh: digit(" + d + ")", x.digit(d), 0);
            checks.state("fresh, then " + d, x, 0, d);
        }
    }

    // "Separate objects share no state; calls on one object never affect another."
    private static void separateObjectsShareNothing() {
        MinIntGuard untouched = new MinIntGuard();
        MinIntGuard negative = Checks.fed("-12");
        MinIntGuard saturated = Checks.fed("99999999999");
        checks.state("saturated beside others", saturated, 1, -2147483647);
        checks.state("negative beside others", negative, 0, -12);
        checks.state("untouched beside others", untouched, 0, 0);
        checks.due("negative: digit(3)", negative.digit(3), 0);
        checks.state("negative after its next digit", negative, 0, -123);
        checks.due("untouched: minus()", untouched.minus(), 0);
        checks.due("untouched: digit(7)", untouched.digit(7), 0);
        checks.state("untouched after its own calls", untouched, 0, -7);
    }

    // "A freshly constructed object has: magnitude 0; minus flag false; started flag false",
    // however far the objects before it went.
    private static void laterObjectsStartFresh() {
        for (String before : Checks.LITERALS) {
            Checks.fed(before);
            checks.state("made after '" + before + "'", new MinIntGuard(), 0, 0);
            Checks.fed(before);
            checks.due("made after '" + before + "': minus()", new MinIntGuard().minus(), 0);
            Checks.fed(before);
            checks.due("made after '" + before + "': digit(9)", new MinIntGuard().digit(9), 0);
        }
    }
}
