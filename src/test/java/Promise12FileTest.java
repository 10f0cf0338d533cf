/** Promise 12: file. */
public final class Promise12FileTest {
    private static final int REFUSED = SpreadParity.REFUSED;

    public static void main(String[] args) {
        Checks checks = new Checks("promise 12");
        fileNumbers(checks);
        lengths(checks);
        numbersOfExtents(checks);
        extents(checks);
        noneSuch(checks);
        otherWhats(checks);
        checks.end();
    }

    /** File 7 has 1, 2 or 3 extents. */
    private static SpreadParity withExtents(int length) {
        SpreadParity x = States.withoutOddFiles(2, 3, 2, 4, 2, 5, 3);
        x.create(7, length);
        return x;
    }

    private static void fileNumbers(Checks checks) {
        checks.sentence("What of a file 0 .. 7");
        SpreadParity x = new SpreadParity(1);
        for (int f = 0; f < 8; f++) {
            x.create(f, 1 + f % 2);
        }
        for (int f = 0; f < 8; f++) {
            checks.due("file(" + f + ", 0)", x.file(f, 0), 1 + f % 2);
        }
        for (int f : Checks.outside(0, 7)) {
            for (int what = -1; what <= 8; what++) {
                checks.due("file(" + f + ", " + what + ")", x.file(f, what), REFUSED);
            }
        }
    }

    private static void lengths(Checks checks) {
        checks.sentence("0 its length, 0 if it is not there");
        for (int length : new int[] {1, 5, 8, 12}) {
            checks.due("file(7, 0)", withExtents(length).file(7, 0), length);
        }
        SpreadParity x = new SpreadParity(3);
        checks.due("file(7, 0), never made", x.file(7, 0), 0);
        x.create(7, 63);
        checks.due("file(7, 0), the longest", x.file(7, 0), 63);
        checks.due("create(6, 1), FULL", x.create(6, 1), SpreadParity.FULL);
        checks.due("file(6, 0), FULL", x.file(6, 0), 0);
        x.remove(7);
        checks.due("file(7, 0), removed", x.file(7, 0), 0);
    }

    private static void numbersOfExtents(Checks checks) {
        checks.sentence("1 its number of extents, 0 likewise");
        int[][] ways = {{5, 1}, {6, 2}, {9, 2}, {10, 3}, {12, 3}, {13, 0}};
        for (int[] way : ways) {
            checks.due("file(7, 1), length " + way[0], withExtents(way[0]).file(7, 1), way[1]);
        }
        SpreadParity x = new SpreadParity(1);
        checks.due("file(0, 1), never made", x.file(0, 1), 0);
        x.create(0, 3);
        checks.due("file(0, 1)", x.file(0, 1), 1);
        x.remove(0);
        checks.due("file(0, 1), removed", x.file(0, 1), 0);
    }

    private static void extents(Checks checks) {
        checks.sentence("2, 4, 6 the first block and 3, 5, 7 the length of its extent 0, 1, 2");
        int[][] ways = {{5, 13, 5}, {7, 13, 5, 7, 2}, {9, 13, 5, 7, 4}, {10, 13, 5, 7, 4, 2, 1}, {12, 13, 5, 7, 4, 2, 3}};
        for (int[] way : ways) {
            SpreadParity x = withExtents(way[0]);
            for (int what = 2; what <= way.length; what++) {
                checks.due("length " + way[0] + ": file(7, " + what + ")", x.file(7, what), way[what - 1]);
            }
        }
        // The first block of all and the last.
        SpreadParity y = new SpreadParity(3);
        y.create(0, 62);
        y.create(1, 1);
        checks.due("file(0, 2)", y.file(0, 2), 0);
        checks.due("file(0, 3)", y.file(0, 3), 62);
        checks.due("file(1, 2)", y.file(1, 2), 62);
        checks.due("file(1, 3)", y.file(1, 3), 1);
    }

    private static void noneSuch(Checks checks) {
        checks.sentence("REFUSED if it has none such");
        int[][] ways = {{5, 1}, {7, 2}, {12, 3}, {13, 0}};
        for (int[] way : ways) {
            SpreadParity x = withExtents(way[0]);
            for (int what = 2 + 2 * way[1]; what <= 7; what++) {
                checks.due("length " + way[0] + ": file(7, " + what + ")", x.file(7, what), REFUSED);
            }
        }
        // What an earlier file of this number had is gone.
        SpreadParity y = withExtents(12);
        y.remove(7);
        for (int what = 2; what <= 7; what++) {
            checks.due("removed: file(7, " + what + ")", y.file(7, what), REFUSED);
        }
        y.create(7, 4);
        for (int what = 4; what <= 7; what++) {
            checks.due("made again: file(7, " + what + ")", y.file(7, what), REFUSED);
        }
    }

    private static void otherWhats(Checks checks) {
        checks.sentence("Another what: REFUSED.");
        SpreadParity x = withExtents(12);
        for (int what : Checks.outside(0, 7)) {
            checks.due("file(7, " + what + "), three extents", x.file(7, what), REFUSED);
            checks.due("file(0, " + what + "), one extent", x.file(0, what), REFUSED);
            checks.due("file(1, " + what + "), not there", x.file(1, what), REFUSED);
        }
    }
}
