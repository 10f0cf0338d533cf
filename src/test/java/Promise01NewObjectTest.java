/** Promise 1: A new object. */
public final class Promise01NewObjectTest {
    private static final int[][] GROUPS = {
        {Integer.MIN_VALUE, 1}, {-1, 1}, {0, 1}, {1, 1}, {2, 2}, {3, 3}, {4, 3}, {Integer.MAX_VALUE, 3},
    };

    public static void main(String[] args) {
        Checks checks = new Checks("promise 1");
        for (int[] groups : GROUPS) {
            size(checks, groups[0], 7 * groups[1]);
            allIsFine(checks, groups[0], 7 * groups[1]);
        }
        allWordsAreZero(checks);
        twoObjectsAreApart(checks);
        checks.end();
    }

    private static void size(Checks checks, int groups, int stripes) {
        SpreadParity x = new SpreadParity(groups);
        String made = "new SpreadParity(" + groups + "): ";
        checks.due(made + "count(0)", x.count(0), 3 * stripes);
        checks.due(made + "count(1)", x.count(1), 3 * stripes);
        checks.due(made + "count(6)", x.count(6), 1);
        checks.due(made + "last stripe", x.stripe(stripes - 1, 0), 0);
        checks.due(made + "stripe after the last", x.stripe(stripes, 0), SpreadParity.REFUSED);
        checks.due(made + "count(5)", x.count(5), 0);
    }

    private static void allIsFine(Checks checks, int groups, int stripes) {
        SpreadParity x = new SpreadParity(groups);
        for (int s = 0; s < stripes; s++) {
            for (int c = 0; c < 4; c++) {
                checks.due("stripe(" + s + ", " + c + ")", x.stripe(s, c), 0);
            }
            checks.due("stripe(" + s + ", 4)", x.stripe(s, 4), 4);
            checks.due("stripe(" + s + ", 5)", x.stripe(s, 5), 0);
        }
        for (int d = 0; d < 7; d++) {
            checks.due("disk(" + d + ", 0)", x.disk(d, 0), 1);
            checks.due("disk(" + d + ", 1)", x.disk(d, 1), 4 * stripes / 7);
            checks.due("disk(" + d + ", 2)", x.disk(d, 2), 0);
        }
        for (int f = 0; f < 8; f++) {
            checks.due("file(" + f + ", 0)", x.file(f, 0), 0);
            checks.due("file(" + f + ", 1)", x.file(f, 1), 0);
            checks.due("file(" + f + ", 2)", x.file(f, 2), SpreadParity.REFUSED);
        }
        for (int what = 2; what <= 4; what++) {
            checks.due("count(" + what + ")", x.count(what), 0);
        }
    }

    private static void allWordsAreZero(Checks checks) {
        SpreadParity x = new SpreadParity(3);
        checks.due("create(0, 63)", x.create(0, 63), 1);
        for (int i = 0; i < 63; i++) {
            checks.due("read(0, " + i + ")", x.read(0, i), 0);
        }
    }

    private static void twoObjectsAreApart(Checks checks) {
        SpreadParity x = new SpreadParity(1);
        SpreadParity y = new SpreadParity(1);
        x.create(0, 5);
        x.fail(3);
        x.alter(0, 0, 1);
        x.scrub(2);
        checks.same("calls on another object", y, new SpreadParity(1));
    }
}
