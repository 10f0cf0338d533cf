/** Promise 14: disk. */
public final class Promise14DiskTest {
    private static final int REFUSED = SpreadParity.REFUSED;

    public static void main(String[] args) {
        Checks checks = new Checks("promise 14");
        diskNumbers(checks);
        present(checks);
        cells(checks);
        movedOnes(checks);
        otherWhats(checks);
        checks.end();
    }

    private static void diskNumbers(Checks checks) {
        checks.sentence("What of a disk 0 .. 6");
        SpreadParity x = new SpreadParity(1);
        for (int disk = 0; disk < 7; disk++) {
            checks.due("disk(" + disk + ", 1)", x.disk(disk, 1), 4);
        }
        for (int disk : Checks.outside(0, 6)) {
            for (int what = -1; what <= 3; what++) {
                checks.due("disk(" + disk + ", " + what + ")", x.disk(disk, what), REFUSED);
            }
        }
    }

    private static void present(Checks checks) {
        checks.sentence("0: 1 if it is present, else 0");
        SpreadParity x = new SpreadParity(1);
        for (int disk = 0; disk < 7; disk++) {
            checks.due("disk(" + disk + ", 0)", x.disk(disk, 0), 1);
            x.fail(disk);
            for (int other = 0; other < 7; other++) {
                checks.due("disk(" + other + ", 0)", x.disk(other, 0), other <= disk ? 0 : 1);
            }
        }
        x.replace(3);
        checks.due("disk(3, 0), without any cells", x.disk(3, 0), 1);
        checks.due("disk(4, 0)", x.disk(4, 0), 0);
    }

    private static void cells(Checks checks) {
        checks.sentence("1 how many columns have their cells on it");
        for (int groups = 1; groups <= 3; groups++) {
            SpreadParity x = new SpreadParity(groups);
            for (int disk = 0; disk < 7; disk++) {
                checks.due("disk(" + disk + ", 1)", x.disk(disk, 1), 4 * groups);
            }
            x.fail(2);
            checks.due("disk(2, 1), absent", x.disk(2, 1), 0);
            checks.due("disk(0, 1), not yet", x.disk(0, 1), 4 * groups);
            x.rebuild(1);
            checks.due("disk(0, 1), one more", x.disk(0, 1), 4 * groups + 1);
            x.rebuild(21);
            checks.due("disk(0, 1), with moved ones", x.disk(0, 1), 5 * groups);
            checks.due("disk(1, 1), no spare of these", x.disk(1, 1), 4 * groups);
            x.replace(2);
            checks.due("disk(2, 1), new", x.disk(2, 1), 0);
            x.moveBack(1);
            checks.due("disk(2, 1), one went back", x.disk(2, 1), 1);
            checks.due("disk(0, 1), one less", x.disk(0, 1), 5 * groups - 1);
        }
        // A WRONG cell is a cell all the same.
        SpreadParity y = new SpreadParity(1);
        y.alter(0, 0, 1);
        checks.due("disk(2, 1)", y.disk(2, 1), 4);
    }

    private static void movedOnes(Checks checks) {
        checks.sentence("2 how many of them are moved ones");
        for (int groups = 1; groups <= 3; groups++) {
            SpreadParity x = new SpreadParity(groups);
            for (int disk = 0; disk < 7; disk++) {
                checks.due("disk(" + disk + ", 2)", x.disk(disk, 2), 0);
            }
            x.fail(2);
            checks.due("disk(0, 2), not yet", x.disk(0, 2), 0);
            x.rebuild(21);
            int[] moved = {groups, 0, 0, groups, groups, groups, 0};
            for (int disk = 0; disk < 7; disk++) {
                checks.due("disk(" + disk + ", 2)", x.disk(disk, 2), moved[disk]);
            }
            x.alter(0, 0, 1);
            checks.due("disk(0, 2), one WRONG", x.disk(0, 2), groups);
            x.replace(2);
            x.moveBack(1);
            checks.due("disk(0, 2), one went back", x.disk(0, 2), groups - 1);
            x.fail(3);
            checks.due("disk(3, 2), absent", x.disk(3, 2), 0);
        }
    }

    private static void otherWhats(Checks checks) {
        checks.sentence("Another what: REFUSED.");
        SpreadParity x = States.mixed();
        for (int what : Checks.outside(0, 2)) {
            for (int disk = 0; disk < 7; disk++) {
                checks.due("disk(" + disk + ", " + what + ")", x.disk(disk, what), REFUSED);
            }
        }
    }
}
