/** Promise 8: alter. */
public final class Promise08AlterTest {
    public static void main(String[] args) {
        Checks checks = new Checks("promise 8");
        everyColumn(checks);
        wrongNumbers(checks);
        lostColumns(checks);
        backByMasks(checks);
        movedColumns(checks);
        checks.end();
    }

    private static void everyColumn(Checks checks) {
        SpreadParity x = new SpreadParity(3);
        for (int s = 0; s < 21; s++) {
            int c = s % 4;
            checks.due("alter(" + s + ", " + c + ", 1)", x.alter(s, c, 1 << s), SpreadParity.DONE);
            for (int other = 0; other < 4; other++) {
                checks.due("stripe(" + s + ", " + other + ")", x.stripe(s, other), other == c ? 1 : 0);
            }
        }
        checks.due("count(3)", x.count(3), 21);
        checks.due("count(4)", x.count(4), 0);
    }

    private static void wrongNumbers(Checks checks) {
        SpreadParity x = new SpreadParity(2);
        int[][] bad = {
            {-1, 0, 1}, {14, 0, 1}, {0, -1, 1}, {0, 4, 1}, {0, 0, 0}, {Integer.MIN_VALUE, 0, 1},
            {Integer.MAX_VALUE, 0, 1}, {0, Integer.MIN_VALUE, 1}, {0, Integer.MAX_VALUE, 1},
        };
        for (int[] at : bad) {
            checks.due("alter(" + at[0] + ", " + at[1] + ", " + at[2] + ")",
                    x.alter(at[0], at[1], at[2]), SpreadParity.REFUSED);
        }
        checks.same("what is refused", x, new SpreadParity(2));
        checks.due("alter(13, 3, MIN_VALUE)", x.alter(13, 3, Integer.MIN_VALUE), SpreadParity.DONE);
        checks.due("stripe(13, 3)", x.stripe(13, 3), 1);
        checks.due("alter(13, 3, 0)", x.alter(13, 3, 0), SpreadParity.REFUSED);
        checks.due("stripe(13, 3)", x.stripe(13, 3), 1);
    }

    private static void lostColumns(Checks checks) {
        SpreadParity x = new SpreadParity(1);
        x.create(0, 3);
        x.write(0, 0, 6, 9);
        x.fail(2);
        checks.due("alter(0, 0, 1), lost", x.alter(0, 0, 1), SpreadParity.REFUSED);
        checks.due("alter(0, 0, 0), lost", x.alter(0, 0, 0), SpreadParity.REFUSED);
        checks.due("read(0, 0)", x.read(0, 0), 6);
        x.rebuild(21);
        checks.due("stripe(0, 0)", x.stripe(0, 0), 0);
        checks.due("read(0, 0)", x.read(0, 0), 6);
    }

    private static void backByMasks(Checks checks) {
        SpreadParity x = new SpreadParity(1);
        x.create(0, 3);
        x.write(0, 2, -5, 9);
        checks.due("alter(0, 2, 5)", x.alter(0, 2, 5), SpreadParity.DONE);
        checks.due("alter(0, 2, 9)", x.alter(0, 2, 9), SpreadParity.DONE);
        checks.due("stripe(0, 2)", x.stripe(0, 2), 1);
        checks.due("alter(0, 2, 12)", x.alter(0, 2, 12), SpreadParity.DONE);
        checks.due("stripe(0, 2)", x.stripe(0, 2), 0);
        checks.due("read(0, 2)", x.read(0, 2), -5);
        x.alter(0, 0, -1);
        x.alter(0, 1, -1);
        checks.due("stripe(0, 5)", x.stripe(0, 5), 1);
        x.alter(0, 0, -1);
        checks.due("stripe(0, 5)", x.stripe(0, 5), 0);
    }

    private static void movedColumns(Checks checks) {
        SpreadParity x = new SpreadParity(1);
        x.fail(2);
        x.rebuild(1);
        checks.due("stripe(0, 4)", x.stripe(0, 4), 0);
        checks.due("alter(0, 0, 3), moved", x.alter(0, 0, 3), SpreadParity.DONE);
        checks.due("stripe(0, 0)", x.stripe(0, 0), 1);
        checks.due("stripe(0, 4)", x.stripe(0, 4), 0);
    }
}
