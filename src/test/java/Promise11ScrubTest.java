/** Promise 11: scrub. */
public final class Promise11ScrubTest {
    private static final int REFUSED = SpreadParity.REFUSED;

    public static void main(String[] args) {
        Checks checks = new Checks("promise 11");
        amounts(checks);
        nextOnes(checks);
        roundAgain(checks);
        firstOfAll(checks);
        brokenStripes(checks);
        wrongColumns(checks);
        lostColumns(checks);
        howMany(checks);
        checks.end();
    }

    private static void amounts(Checks checks) {
        checks.sentence("n 1 .. 21.");
        SpreadParity x = States.mixed();
        for (int n : Checks.outside(1, 21)) {
            checks.due("scrub(" + n + ")", x.scrub(n), REFUSED);
        }
        checks.same("what is refused", x, States.mixed());
        for (int n = 1; n <= 21; n++) {
            SpreadParity y = new SpreadParity(3);
            checks.due("scrub(" + n + ")", y.scrub(n), 0);
            checks.due("count(5)", y.count(5), n % 21);
        }
    }

    private static void nextOnes(Checks checks) {
        checks.sentence("The next n stripes are visited");
        SpreadParity x = new SpreadParity(2);
        for (int s = 0; s < 14; s++) {
            x.alter(s, s % 4, 9);
        }
        checks.due("scrub(1)", x.scrub(1), 1);
        checks.due("count(5)", x.count(5), 1);
        checks.due("stripe(0, 0)", x.stripe(0, 0), 0);
        checks.due("stripe(1, 1), not yet", x.stripe(1, 1), 1);
        x.alter(0, 0, 9);
        checks.due("scrub(12)", x.scrub(12), 12);
        checks.due("count(5)", x.count(5), 13);
        checks.due("stripe(12, 0)", x.stripe(12, 0), 0);
        checks.due("stripe(13, 1), not yet", x.stripe(13, 1), 1);
        checks.due("stripe(0, 0), altered after its turn", x.stripe(0, 0), 1);
    }

    private static void roundAgain(Checks checks) {
        checks.sentence("after stripe S - 1 comes 0");
        for (int groups = 1; groups <= 3; groups++) {
            int stripes = 7 * groups;
            SpreadParity x = new SpreadParity(groups);
            x.scrub(stripes - 1);
            checks.due("count(5), the last one", x.count(5), stripes - 1);
            x.alter(stripes - 1, 2, 9);
            x.alter(0, 2, 9);
            checks.due("scrub(1)", x.scrub(1), 1);
            checks.due("stripe(" + (stripes - 1) + ", 2)", x.stripe(stripes - 1, 2), 0);
            checks.due("count(5), 0 again", x.count(5), 0);
            checks.due("stripe(0, 2), not yet", x.stripe(0, 2), 1);
            checks.due("scrub(1)", x.scrub(1), 1);
            checks.due("count(5)", x.count(5), 1);
            // Over the end within one call.
            x.scrub(stripes - 2);
            x.alter(stripes - 1, 1, 9);
            x.alter(0, 1, 9);
            x.alter(1, 1, 9);
            x.alter(2, 1, 9);
            checks.due("scrub(3)", x.scrub(3), 3);
            checks.due("count(5)", x.count(5), 2);
            checks.due("stripe(2, 1), not yet", x.stripe(2, 1), 1);
        }
        // More visits than there are stripes.
        SpreadParity y = new SpreadParity(1);
        y.alter(3, 1, 9);
        checks.due("scrub(20)", y.scrub(20), 1);
        checks.due("count(5)", y.count(5), 6);
        checks.due("scrub(21)", y.scrub(21), 0);
        checks.due("count(5)", y.count(5), 6);
    }

    private static void firstOfAll(Checks checks) {
        checks.sentence("the first of all is 0");
        for (int groups = 1; groups <= 3; groups++) {
            SpreadParity x = new SpreadParity(groups);
            checks.due("count(5)", x.count(5), 0);
            x.alter(0, 0, 9);
            x.alter(1, 0, 9);
            x.alter(7 * groups - 1, 0, 9);
            checks.due("scrub(1)", x.scrub(1), 1);
            checks.due("stripe(0, 0)", x.stripe(0, 0), 0);
            checks.due("count(3)", x.count(3), 2);
        }
    }

    private static void brokenStripes(Checks checks) {
        checks.sentence("if it is not BROKEN");
        SpreadParity x = new SpreadParity(1);
        x.alter(0, 0, 1);
        x.alter(0, 1, 1);
        x.alter(1, 1, 1);
        x.fail(3);
        checks.due("stripe(0, 5), two WRONG", x.stripe(0, 5), 1);
        checks.due("stripe(1, 5), WRONG and LOST", x.stripe(1, 5), 1);
        checks.due("scrub(7)", x.scrub(7), 0);
        checks.due("count(3)", x.count(3), 3);
        checks.due("count(5), BROKEN ones are visited too", x.count(5), 0);
        x.alter(0, 1, 1);
        checks.due("scrub(7), no more BROKEN", x.scrub(7), 1);
        checks.due("stripe(0, 0)", x.stripe(0, 0), 0);
        checks.due("stripe(1, 1)", x.stripe(1, 1), 1);
    }

    private static void wrongColumns(Checks checks) {
        checks.sentence("and has a WRONG column, that is MENDED");
        for (int c = 0; c < 4; c++) {
            SpreadParity x = States.filled();
            x.alter(0, c, 1000);
            checks.due("scrub(1)", x.scrub(1), 1);
            checks.due("stripe(0, " + c + ")", x.stripe(0, c), 0);
            checks.due("count(3)", x.count(3), 0);
            // Its word counts when another column is worked out.
            x.fail(States.home(0, (c + 1) % 4));
            x.rebuild(21);
            checks.due("count(3)", x.count(3), 0);
            for (int i = 0; i < 3; i++) {
                checks.due("read(0, " + i + ")", x.read(0, i), States.word(i));
            }
        }
        // One that is moved is mended where it is.
        SpreadParity y = States.moved();
        y.alter(0, 0, 1000);
        checks.due("scrub(1), moved", y.scrub(1), 1);
        checks.due("stripe(0, 0)", y.stripe(0, 0), 0);
        checks.due("stripe(0, 4)", y.stripe(0, 4), 0);
    }

    private static void lostColumns(Checks checks) {
        checks.sentence("has a WRONG column");
        SpreadParity x = States.filled();
        x.fail(2);
        x.replace(2);
        checks.due("scrub(7), LOST is not WRONG", x.scrub(7), 0);
        checks.due("count(2), nothing is worked out", x.count(2), 4);
        checks.due("scrub(7), all is fine", States.filled().scrub(7), 0);
    }

    private static void howMany(Checks checks) {
        checks.sentence("Answers how many were MENDED.");
        SpreadParity x = new SpreadParity(3);
        for (int s = 0; s < 21; s += 2) {
            x.alter(s, 3, -1);
        }
        checks.due("scrub(21)", x.scrub(21), 11);
        checks.due("scrub(21), none is left", x.scrub(21), 0);
        // A stripe that is visited three times is mended once.
        SpreadParity y = new SpreadParity(1);
        for (int s = 0; s < 7; s++) {
            y.alter(s, s % 4, 1);
        }
        checks.due("scrub(21)", y.scrub(21), 7);
    }
}
