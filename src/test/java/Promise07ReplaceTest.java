/** Promise 7: replace. */
public final class Promise07ReplaceTest {
    private static final int REFUSED = SpreadParity.REFUSED;

    public static void main(String[] args) {
        Checks checks = new Checks("promise 7");
        diskNumbers(checks);
        presentDisks(checks);
        withoutCells(checks);
        columnsStayLost(checks);
        movedColumnsStay(checks);
        checks.end();
    }

    private static void diskNumbers(Checks checks) {
        checks.sentence("Disk 0 .. 6");
        SpreadParity x = States.mixed();
        for (int disk : Checks.outside(0, 6)) {
            checks.due("replace(" + disk + ")", x.replace(disk), REFUSED);
        }
        checks.same("what is refused", x, States.mixed());
        SpreadParity y = new SpreadParity(1);
        for (int disk = 0; disk < 7; disk++) {
            y.fail(disk);
        }
        for (int disk = 0; disk < 7; disk++) {
            checks.due("replace(" + disk + ")", y.replace(disk), SpreadParity.DONE);
            checks.due("disk(" + disk + ", 0)", y.disk(disk, 0), 1);
        }
    }

    private static void presentDisks(Checks checks) {
        checks.sentence("absent (else REFUSED)");
        SpreadParity x = States.mixed();
        for (int disk = 0; disk < 7; disk++) {
            if (disk != 2) {
                checks.due("replace(" + disk + "), present", x.replace(disk), REFUSED);
            }
        }
        checks.same("what is refused", x, States.mixed());
        SpreadParity y = new SpreadParity(1);
        y.fail(3);
        checks.due("replace(3)", y.replace(3), SpreadParity.DONE);
        checks.due("replace(3) again", y.replace(3), REFUSED);
    }

    private static void withoutCells(Checks checks) {
        checks.sentence("a new one is present, without any cells");
        for (int disk = 0; disk < 7; disk++) {
            SpreadParity x = States.filled();
            x.fail((disk + 1) % 7);
            x.rebuild(21);
            x.fail(disk);
            checks.due("replace(" + disk + ")", x.replace(disk), SpreadParity.DONE);
            checks.due("disk(" + disk + ", 0)", x.disk(disk, 0), 1);
            checks.due("disk(" + disk + ", 1)", x.disk(disk, 1), 0);
            checks.due("disk(" + disk + ", 2)", x.disk(disk, 2), 0);
            checks.due("fail(" + disk + ")", x.fail(disk), 0);
        }
    }

    private static void columnsStayLost(Checks checks) {
        checks.sentence("columns that are at home on it stay LOST. DONE.");
        for (int disk = 0; disk < 7; disk++) {
            SpreadParity x = new SpreadParity(3);
            x.fail(disk);
            checks.due("replace(" + disk + ")", x.replace(disk), SpreadParity.DONE);
            checks.due("count(2)", x.count(2), 12);
            for (int s = 0; s < 21; s++) {
                for (int c = 0; c < 4; c++) {
                    checks.due("replace(" + disk + "), stripe(" + s + ", " + c + ")", x.stripe(s, c),
                            States.home(s, c) == disk ? 2 : 0);
                }
            }
        }
    }

    private static void movedColumnsStay(Checks checks) {
        checks.sentence("without any cells");
        SpreadParity x = States.moved();
        checks.due("replace(2)", x.replace(2), SpreadParity.DONE);
        checks.due("stripe(0, 4), it stays moved", x.stripe(0, 4), 0);
        checks.due("stripe(0, 0), it is fine", x.stripe(0, 0), 0);
        checks.due("disk(2, 1)", x.disk(2, 1), 0);
    }
}
