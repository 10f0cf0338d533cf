/** Promise 11: scrub. */
public final class Promise11ScrubTest {
    public static void main(String[] args) {
        Checks checks = new Checks("promise 11");
        wrongNumbers(checks);
        inTurn(checks);
        roundAndRound(checks);
        brokenStripes(checks);
        everyColumn(checks);
        checks.end();
    }

    private static void wrongNumbers(Checks checks) {
        SpreadParity x = new SpreadParity(2);
        SpreadParity twin = new SpreadParity(2);
        x.alter(0, 0, 1);
        twin.alter(0, 0, 1);
        int[] bad = {0, -1, 22, Integer.MIN_VALUE, Integer.MAX_VALUE};
        for (int n : bad) {
            checks.due("scrub(" + n + ")", x.scrub(n), SpreadParity.REFUSED);
        }
        checks.same("what is refused", x, twin);
    }

    private static void inTurn(Checks checks) {
        SpreadParity x = new SpreadParity(2);
        for (int s = 0; s < 14; s++) {
            x.alter(s, s % 4, 9);
        }
        checks.due("scrub(1)", x.scrub(1), 1);
        checks.due("count(5)", x.count(5), 1);
        checks.due("stripe(0, 0)", x.stripe(0, 0), 0);
        checks.due("stripe(1, 1)", x.stripe(1, 1), 1);
        x.alter(0, 0, 9);
        checks.due("scrub(12)", x.scrub(12), 12);
        checks.due("count(5)", x.count(5), 13);
        checks.due("stripe(0, 0), altered after its turn", x.stripe(0, 0), 1);
        checks.due("scrub(2)", x.scrub(2), 2);
        checks.due("count(5), round again", x.count(5), 1);
        checks.due("count(3)", x.count(3), 0);
    }

    private static void roundAndRound(Checks checks) {
        SpreadParity x = new SpreadParity(1);
        checks.due("scrub(7)", x.scrub(7), 0);
        checks.due("count(5)", x.count(5), 0);
        x.alter(3, 1, 9);
        checks.due("scrub(20), more than there are", x.scrub(20), 1);
        checks.due("count(5)", x.count(5), 6);
        checks.due("scrub(21)", x.scrub(21), 0);
        checks.due("count(5)", x.count(5), 6);
        SpreadParity y = new SpreadParity(3);
        checks.due("scrub(20)", y.scrub(20), 0);
        checks.due("count(5)", y.count(5), 20);
        y.scrub(1);
        checks.due("count(5)", y.count(5), 0);
    }

    private static void brokenStripes(Checks checks) {
        SpreadParity x = new SpreadParity(1);
        x.alter(0, 0, 1);
        x.alter(0, 1, 1);
        x.alter(1, 1, 1);
        x.fail(3);
        checks.due("stripe(1, 5)", x.stripe(1, 5), 1);
        checks.due("scrub(7)", x.scrub(7), 0);
        checks.due("count(3)", x.count(3), 3);
        checks.due("count(2), nothing is worked out", x.count(2), 4);
        checks.due("count(5), broken ones are visited too", x.count(5), 0);
        x.alter(0, 1, 1);
        checks.due("scrub(7)", x.scrub(7), 1);
        checks.due("stripe(0, 0)", x.stripe(0, 0), 0);
        checks.due("stripe(1, 1)", x.stripe(1, 1), 1);
    }

    private static void everyColumn(Checks checks) {
        for (int c = 0; c < 4; c++) {
            SpreadParity x = new SpreadParity(1);
            x.create(0, 3);
            x.write(0, 0, 21, 9);
            x.write(0, 1, 22, 9);
            x.write(0, 2, 23, 9);
            x.alter(0, c, 1000);
            checks.due("scrub(1)", x.scrub(1), 1);
            checks.due("count(3)", x.count(3), 0);
            x.fail(4);
            for (int i = 0; i < 3; i++) {
                checks.due("read(0, " + i + ")", x.read(0, i), 21 + i);
            }
        }
    }
}
