/** Promise 1: A new object. */
public final class Promise01NewObjectTest {
    public static void main(String[] args) {
        Checks checks = new Checks("promise 1");
        inRange(checks);
        tooSmall(checks);
        tooLarge(checks);
        twoObjectsAreApart(checks);
        checks.end();
    }

    private static void inRange(Checks checks) {
        checks.sentence("groups: GROUPS");
        for (int groups = 1; groups <= 3; groups++) {
            size(checks, groups, groups);
        }
    }

    private static void tooSmall(Checks checks) {
        checks.sentence("clamped to 1 .. 3");
        for (int groups : new int[] {0, -1, -2, -3, -7, -256, Integer.MIN_VALUE}) {
            size(checks, groups, 1);
        }
    }

    private static void tooLarge(Checks checks) {
        checks.sentence("clamped to 1 .. 3.");
        for (int groups : new int[] {4, 5, 7, 21, 257, Integer.MAX_VALUE}) {
            size(checks, groups, 3);
        }
    }

    private static void size(Checks checks, int given, int groups) {
        SpreadParity x = new SpreadParity(given);
        String made = "new SpreadParity(" + given + "): ";
        int stripes = 7 * groups;
        checks.due(made + "count(0)", x.count(0), 3 * stripes);
        checks.due(made + "count(1)", x.count(1), 3 * stripes);
        checks.due(made + "count(6)", x.count(6), 1);
        checks.due(made + "last stripe", x.stripe(stripes - 1, 0), 0);
        checks.due(made + "stripe after the last", x.stripe(stripes, 0), SpreadParity.REFUSED);
        for (int what = 2; what <= 5; what++) {
            checks.due(made + "count(" + what + ")", x.count(what), 0);
        }
        for (int d = 0; d < 7; d++) {
            checks.due(made + "disk(" + d + ", 1)", x.disk(d, 1), 4 * groups);
        }
        checks.due(made + "create(0, " + 3 * stripes + ")", x.create(0, 3 * stripes), 1);
        checks.due(made + "create(1, 1)", x.create(1, 1), SpreadParity.FULL);
        checks.due(made + "read of the last cell", x.read(0, 3 * stripes - 1), 0);
        checks.due(made + "scrub to the last stripe", x.scrub(stripes - 1), 0);
        checks.due(made + "count(5)", x.count(5), stripes - 1);
        x.scrub(1);
        checks.due(made + "count(5)", x.count(5), 0);
    }

    private static void twoObjectsAreApart(Checks checks) {
        checks.sentence("SpreadParity(int groups)");
        SpreadParity x = new SpreadParity(1);
        SpreadParity y = new SpreadParity(1);
        x.create(0, 5);
        x.fail(3);
        x.alter(0, 0, 1);
        x.scrub(2);
        for (int f = 0; f < 8; f++) {
            checks.due("file(" + f + ", 0) of the other", y.file(f, 0), 0);
        }
        for (int d = 0; d < 7; d++) {
            checks.due("disk(" + d + ", 0) of the other", y.disk(d, 0), 1);
            checks.due("disk(" + d + ", 1) of the other", y.disk(d, 1), 4);
        }
        int[] counts = {21, 21, 0, 0, 0, 0, 1};
        for (int what = 0; what <= 6; what++) {
            checks.due("count(" + what + ") of the other", y.count(what), counts[what]);
        }
        y.create(0, 3);
        y.write(0, 0, 5, 9);
        checks.due("read(0, 0)", x.read(0, 0), 0);
    }
}
