/** Promise 6: fail. */
public final class Promise06FailTest {
    private static final int REFUSED = SpreadParity.REFUSED;

    public static void main(String[] args) {
        Checks checks = new Checks("promise 6");
        diskNumbers(checks);
        absentDisks(checks);
        columnsAreLost(checks);
        wrongColumnsAreLost(checks);
        movedColumnsGoHome(checks);
        movedColumnsElsewhereStay(checks);
        howMany(checks);
        allDisks(checks);
        checks.end();
    }

    private static void diskNumbers(Checks checks) {
        checks.sentence("Disk 0 .. 6");
        SpreadParity x = States.mixed();
        for (int disk : Checks.outside(0, 6)) {
            checks.due("fail(" + disk + ")", x.fail(disk), REFUSED);
        }
        checks.same("what is refused", x, States.mixed());
        for (int disk = 0; disk < 7; disk++) {
            checks.due("fail(" + disk + ")", new SpreadParity(1).fail(disk), 4);
        }
    }

    private static void absentDisks(Checks checks) {
        checks.sentence("present (else REFUSED)");
        for (int disk = 0; disk < 7; disk++) {
            SpreadParity x = States.filled();
            SpreadParity twin = States.filled();
            x.fail(disk);
            twin.fail(disk);
            checks.due("fail(" + disk + ") again", x.fail(disk), REFUSED);
            checks.due("fail(" + disk + ") once more", x.fail(disk), REFUSED);
            checks.same("what is refused", x, twin);
        }
        SpreadParity y = new SpreadParity(1);
        y.fail(6);
        y.replace(6);
        checks.due("fail(6), a new one", y.fail(6), 0);
    }

    private static void columnsAreLost(Checks checks) {
        checks.sentence("it is absent, and all columns with cells on it are LOST");
        for (int groups = 1; groups <= 3; groups++) {
            for (int disk = 0; disk < 7; disk++) {
                SpreadParity x = new SpreadParity(groups);
                x.fail(disk);
                checks.due("disk(" + disk + ", 0)", x.disk(disk, 0), 0);
                checks.due("disk(" + disk + ", 1)", x.disk(disk, 1), 0);
                checks.due("count(2)", x.count(2), 4 * groups);
                for (int s = 0; s < 7 * groups; s++) {
                    for (int c = 0; c < 4; c++) {
                        checks.due("fail(" + disk + "), stripe(" + s + ", " + c + ")", x.stripe(s, c),
                                States.home(s, c) == disk ? 2 : 0);
                    }
                }
            }
        }
    }

    private static void wrongColumnsAreLost(Checks checks) {
        checks.sentence("all columns with cells on it are LOST");
        SpreadParity x = new SpreadParity(1);
        x.alter(0, 0, 9);
        checks.due("fail(2)", x.fail(2), 4);
        checks.due("count(3)", x.count(3), 0);
        checks.due("stripe(0, 0)", x.stripe(0, 0), 2);
        x.replace(2);
        x.rebuild(21);
        checks.due("stripe(0, 0), worked out", x.stripe(0, 0), 0);
    }

    /** Column 0 of stripe 0 is moved to disk 0, its spare; then that fails. */
    private static void movedColumnsGoHome(Checks checks) {
        checks.sentence("those of them that were moved are at home from now on");
        SpreadParity x = States.moved();
        checks.due("disk(0, 1)", x.disk(0, 1), 5);
        x.fail(0);
        checks.due("stripe(0, 0)", x.stripe(0, 0), 2);
        checks.due("stripe(0, 4)", x.stripe(0, 4), 4);
        checks.due("disk(0, 2)", x.disk(0, 2), 0);
        checks.due("read(0, 0)", x.read(0, 0), States.word(0));
        x.replace(0);
        checks.due("stripe(0, 4), spare is new", x.stripe(0, 4), 4);
        x.replace(2);
        checks.due("moveBack(21), those of the other stripes", x.moveBack(21), 3);
        checks.due("stripe(0, 0)", x.stripe(0, 0), 2);
        x.rebuild(1);
        checks.due("stripe(0, 0), worked out", x.stripe(0, 0), 0);
        checks.due("stripe(0, 4), at home", x.stripe(0, 4), 4);
        // The spare can take another column from then on.
        SpreadParity y = States.moved();
        y.fail(0);
        y.replace(2);
        y.rebuild(1);
        y.fail(4);
        y.replace(0);
        y.rebuild(1);
        checks.due("stripe(0, 4), another one", y.stripe(0, 4), 1);
    }

    private static void movedColumnsElsewhereStay(Checks checks) {
        checks.sentence("those of them that were moved");
        SpreadParity x = States.moved();
        x.fail(4);
        int[] moved = {0, 4, 4, 3, 4, 1, 4};
        for (int s = 0; s < 7; s++) {
            checks.due("fail(4): stripe(" + s + ", 4)", x.stripe(s, 4), moved[s]);
        }
        checks.due("stripe(0, 1), lost at home", x.stripe(0, 1), 2);
        checks.due("stripe(4, 2), lost and moved", x.stripe(4, 2), 2);
        // The home of a moved column fails again, without any cells.
        SpreadParity y = States.moved();
        y.replace(2);
        y.fail(2);
        checks.due("fail(2) again: stripe(0, 4)", y.stripe(0, 4), 0);
        checks.due("fail(2) again: stripe(0, 0)", y.stripe(0, 0), 0);
    }

    private static void howMany(Checks checks) {
        checks.sentence("Answers how many are LOST by this.");
        for (int groups = 1; groups <= 3; groups++) {
            SpreadParity x = new SpreadParity(groups);
            checks.due("fail(2)", x.fail(2), 4 * groups);
            x.rebuild(21);
            checks.due("fail(0), with moved ones", x.fail(0), 5 * groups);
            x.replace(2);
            checks.due("fail(2), none", x.fail(2), 0);
        }
        SpreadParity y = new SpreadParity(1);
        y.fail(2);
        y.replace(2);
        y.rebuild(3);
        checks.due("fail(2), three of them are back", y.fail(2), 3);
        checks.due("count(2)", y.count(2), 4);
    }

    private static void allDisks(Checks checks) {
        checks.sentence("Disk 0 .. 6, present");
        SpreadParity x = States.filled();
        for (int disk = 0; disk < 7; disk++) {
            checks.due("fail(" + disk + ")", x.fail(disk), 4);
        }
        checks.due("count(2)", x.count(2), 28);
        checks.due("count(4)", x.count(4), 7);
        for (int disk = 0; disk < 7; disk++) {
            checks.due("fail(" + disk + ") again", x.fail(disk), REFUSED);
        }
        checks.due("rebuild(21)", x.rebuild(21), 0);
        checks.due("read(0, 0)", x.read(0, 0), SpreadParity.UNREADABLE);
    }
}
