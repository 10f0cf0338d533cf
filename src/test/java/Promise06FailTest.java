/** Promise 6: fail. */
public final class Promise06FailTest {
    private static final int[] STEPS = {2, 4, 5, 6};

    public static void main(String[] args) {
        Checks checks = new Checks("promise 6");
        homes(checks);
        wrongNumbers(checks);
        movedColumnsGoHome(checks);
        anAbsentHomeOfAMovedColumn(checks);
        wrongColumnsAreLost(checks);
        newDisksHaveNoCells(checks);
        checks.end();
    }

    private static void homes(Checks checks) {
        for (int groups = 1; groups <= 3; groups++) {
            for (int disk = 0; disk < 7; disk++) {
                SpreadParity x = new SpreadParity(groups);
                checks.due("fail(" + disk + ")", x.fail(disk), 4 * groups);
                checks.due("disk(" + disk + ", 0)", x.disk(disk, 0), 0);
                checks.due("disk(" + disk + ", 1)", x.disk(disk, 1), 0);
                checks.due("count(2)", x.count(2), 4 * groups);
                for (int s = 0; s < 7 * groups; s++) {
                    for (int c = 0; c < 4; c++) {
                        boolean here = (s % 7 + STEPS[c]) % 7 == disk;
                        checks.due("fail(" + disk + "), stripe(" + s + ", " + c + ")", x.stripe(s, c), here ? 2 : 0);
                    }
                }
            }
        }
    }

    private static void wrongNumbers(Checks checks) {
        SpreadParity x = new SpreadParity(2);
        int[] bad = {-1, 7, Integer.MIN_VALUE, Integer.MAX_VALUE};
        for (int disk : bad) {
            checks.due("fail(" + disk + ")", x.fail(disk), SpreadParity.REFUSED);
        }
        checks.same("what is refused", x, new SpreadParity(2));
        checks.due("fail(6)", x.fail(6), 8);
        checks.due("fail(6) again", x.fail(6), SpreadParity.REFUSED);
        checks.due("count(2)", x.count(2), 8);
    }

    /** Column 0 of stripe 0 is moved to disk 0, its spare; then that fails. */
    private static void movedColumnsGoHome(Checks checks) {
        SpreadParity x = new SpreadParity(1);
        x.create(0, 3);
        x.write(0, 0, 31, 9);
        x.fail(2);
        x.rebuild(21);
        checks.due("disk(0, 1)", x.disk(0, 1), 5);
        checks.due("fail(0)", x.fail(0), 5);
        checks.due("stripe(0, 0)", x.stripe(0, 0), 2);
        checks.due("stripe(0, 4)", x.stripe(0, 4), 4);
        checks.due("disk(0, 2)", x.disk(0, 2), 0);
        checks.due("read(0, 0)", x.read(0, 0), 31);
        x.replace(0);
        checks.due("moveBack(21)", x.moveBack(21), 0);
        x.replace(2);
        checks.due("moveBack(21), those of the other stripes", x.moveBack(21), 3);
        checks.due("stripe(0, 0)", x.stripe(0, 0), 2);
        x.rebuild(1);
        checks.due("stripe(0, 0)", x.stripe(0, 0), 0);
        checks.due("stripe(0, 4), at home", x.stripe(0, 4), 4);
    }

    private static void anAbsentHomeOfAMovedColumn(Checks checks) {
        SpreadParity x = new SpreadParity(1);
        x.fail(2);
        checks.due("rebuild(21)", x.rebuild(21), 4);
        x.replace(2);
        checks.due("disk(2, 1)", x.disk(2, 1), 0);
        checks.due("fail(2), nothing on it", x.fail(2), 0);
        checks.due("stripe(0, 4)", x.stripe(0, 4), 0);
        checks.due("stripe(0, 0)", x.stripe(0, 0), 0);
        checks.due("count(2)", x.count(2), 0);
    }

    private static void wrongColumnsAreLost(Checks checks) {
        SpreadParity x = new SpreadParity(1);
        x.alter(0, 0, 9);
        checks.due("count(3)", x.count(3), 1);
        checks.due("fail(2)", x.fail(2), 4);
        checks.due("count(3)", x.count(3), 0);
        checks.due("stripe(0, 0)", x.stripe(0, 0), 2);
        x.replace(2);
        checks.due("rebuild(21)", x.rebuild(21), 4);
        checks.due("stripe(0, 0)", x.stripe(0, 0), 0);
        checks.due("count(3)", x.count(3), 0);
    }

    private static void newDisksHaveNoCells(Checks checks) {
        SpreadParity x = new SpreadParity(1);
        checks.due("fail(3)", x.fail(3), 4);
        x.replace(3);
        checks.due("fail(3), a new one", x.fail(3), 0);
        checks.due("count(2)", x.count(2), 4);
        checks.due("disk(3, 0)", x.disk(3, 0), 0);
    }
}
