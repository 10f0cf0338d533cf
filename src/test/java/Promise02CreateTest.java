/** Promise 2: create. */
public final class Promise02CreateTest {
    private static final int REFUSED = SpreadParity.REFUSED;
    private static final int FULL = SpreadParity.FULL;

    public static void main(String[] args) {
        Checks checks = new Checks("promise 2");
        fileNumbers(checks);
        filesThatAreThere(checks);
        lengths(checks);
        justLongEnough(checks);
        firstSuchOne(checks);
        longestFirst(checks);
        ofSeveralTheFirst(checks);
        lastRunIsCut(checks);
        runsThatAreLeft(checks);
        threeExtentsAtMost(checks);
        notEnoughBlocks(checks);
        numberOfExtents(checks);
        checks.end();
    }

    private static void extents(Checks checks, SpreadParity x, int file, int... want) {
        for (int what = 0; what <= 7; what++) {
            checks.due("file(" + file + ", " + what + ")", x.file(file, what), what < want.length ? want[what] : REFUSED);
        }
    }

    private static void fileNumbers(Checks checks) {
        checks.sentence("file 0 .. 7");
        SpreadParity x = new SpreadParity(3);
        for (int file : Checks.outside(0, 7)) {
            checks.due("create(" + file + ", 1)", x.create(file, 1), REFUSED);
        }
        checks.due("count(0)", x.count(0), 63);
        for (int file = 0; file < 8; file++) {
            checks.due("create(" + file + ", 1)", x.create(file, 1), 1);
            checks.due("file(" + file + ", 2)", x.file(file, 2), file);
        }
    }

    private static void filesThatAreThere(Checks checks) {
        checks.sentence("not there (else REFUSED)");
        SpreadParity x = new SpreadParity(1);
        for (int file = 0; file < 8; file++) {
            x.create(file, 2);
            checks.due("create(" + file + ", 1) again", x.create(file, 1), REFUSED);
            checks.due("create(" + file + ", 2) again", x.create(file, 2), REFUSED);
            extents(checks, x, file, 2, 1, 2 * file, 2);
        }
        checks.due("count(0)", x.count(0), 5);
        checks.due("create(7, 6), there, and no place", x.create(7, 6), REFUSED);
        x.remove(7);
        checks.due("create(7, 6), not there any more", x.create(7, 6), 1);
    }

    private static void lengths(Checks checks) {
        checks.sentence("length 1 .. 63");
        SpreadParity x = new SpreadParity(3);
        for (int length : Checks.outside(1, 63)) {
            checks.due("create(0, " + length + ")", x.create(0, length), REFUSED);
        }
        checks.due("file(0, 0)", x.file(0, 0), 0);
        checks.due("create(0, 1)", x.create(0, 1), 1);
        extents(checks, x, 0, 1, 1, 0, 1);
        x.remove(0);
        checks.due("create(0, 63)", x.create(0, 63), 1);
        extents(checks, x, 0, 63, 1, 0, 63);
    }

    private static void justLongEnough(Checks checks) {
        checks.sentence("If a free RUN is at least so long");
        int[][] ways = {{3, 2}, {4, 2}, {5, 13}, {6, 13}};
        for (int[] way : ways) {
            SpreadParity x = States.gaps();
            checks.due("create(7, " + way[0] + ")", x.create(7, way[0]), 1);
            extents(checks, x, 7, way[0], 1, way[1], way[0]);
        }
        SpreadParity y = States.gaps();
        checks.due("create(7, 7), longer than each", y.create(7, 7), 2);
        // The last run of all, which ends with the last block.
        SpreadParity z = new SpreadParity(1);
        z.create(0, 16);
        checks.due("create(1, 5)", z.create(1, 5), 1);
        extents(checks, z, 1, 5, 1, 16, 5);
    }

    /** Neither the one that fits best nor the longest one. */
    private static void firstSuchOne(Checks checks) {
        checks.sentence("the file gets the first blocks of the first such one as its only extent");
        SpreadParity x = States.gaps();
        checks.due("create(7, 3)", x.create(7, 3), 1);
        extents(checks, x, 7, 3, 1, 2, 3);
        checks.due("create(1, 3)", x.create(1, 3), 1);
        extents(checks, x, 1, 3, 1, 8, 3);
        checks.due("create(3, 1)", x.create(3, 1), 1);
        extents(checks, x, 3, 1, 1, 5, 1);
        checks.due("create(5, 6)", x.create(5, 6), 1);
        extents(checks, x, 5, 6, 1, 13, 6);
        checks.due("count(0)", x.count(0), 1);
        SpreadParity y = new SpreadParity(1);
        y.create(0, 5);
        y.create(1, 5);
        y.remove(0);
        checks.due("create(2, 5)", y.create(2, 5), 1);
        extents(checks, y, 2, 5, 1, 0, 5);
    }

    private static void longestFirst(Checks checks) {
        checks.sentence("Else it gets the longest RUN (of several the first) as a whole");
        SpreadParity x = States.gaps();
        checks.due("create(7, 7)", x.create(7, 7), 2);
        extents(checks, x, 7, 7, 2, 13, 6, 2, 1);
        // The longest is the last of all, and ends with the last block.
        SpreadParity y = States.withoutOddFiles(1, 2, 1, 3, 1, 4, 1);
        checks.due("create(7, 9)", y.create(7, 9), 2);
        extents(checks, y, 7, 9, 2, 13, 8, 8, 1);
        // The longest is the first of all.
        SpreadParity z = States.withoutOddFiles(1, 7, 1, 3, 1, 4, 4);
        z.remove(0);
        checks.due("create(7, 9)", z.create(7, 9), 2);
        extents(checks, z, 7, 9, 2, 0, 8, 13, 1);
    }

    private static void ofSeveralTheFirst(Checks checks) {
        checks.sentence("(of several the first)");
        SpreadParity x = States.withoutOddFiles(1, 4, 1, 5, 1, 5, 4);
        checks.due("create(7, 11)", x.create(7, 11), 3);
        extents(checks, x, 7, 11, 3, 6, 5, 12, 5, 1, 1);
        SpreadParity y = States.withoutOddFiles(3, 3, 3, 3, 3, 3, 3);
        checks.due("create(7, 8)", y.create(7, 8), 3);
        extents(checks, y, 7, 8, 3, 3, 3, 9, 3, 15, 2);
    }

    /** The rest goes to the longest run that is left, not to the first that would do or the one that fits best. */
    private static void lastRunIsCut(Checks checks) {
        checks.sentence("or, if that is longer than what is still needed, the first blocks of it");
        int[][] ways = {{7, 1}, {8, 2}, {9, 3}, {10, 4}};
        for (int[] way : ways) {
            SpreadParity x = States.withoutOddFiles(1, 2, 1, 4, 1, 6, 6);
            checks.due("create(7, " + way[0] + ")", x.create(7, way[0]), 2);
            extents(checks, x, 7, way[0], 2, 9, 6, 4, way[1]);
            checks.due("count(0)", x.count(0), 12 - way[0]);
            checks.due("count(6)", x.count(6), way[1] == 4 ? 1 : 2);
        }
        SpreadParity y = States.withoutOddFiles(1, 2, 1, 4, 1, 6, 6);
        checks.due("create(7, 11), a third one is cut", y.create(7, 11), 3);
        extents(checks, y, 7, 11, 3, 9, 6, 4, 4, 1, 1);
    }

    private static void runsThatAreLeft(Checks checks) {
        checks.sentence("and so on with the RUNS that are then left, until it has its length");
        SpreadParity x = States.gaps();
        checks.due("create(7, 12)", x.create(7, 12), 3);
        extents(checks, x, 7, 12, 3, 13, 6, 2, 4, 8, 2);
        SpreadParity y = States.gaps();
        checks.due("create(7, 13)", y.create(7, 13), 3);
        extents(checks, y, 7, 13, 3, 13, 6, 2, 4, 8, 3);
        checks.due("count(0)", y.count(0), 1);
        checks.due("count(6)", y.count(6), 1);
    }

    private static void threeExtentsAtMost(Checks checks) {
        checks.sentence("if that would take more than three extents");
        SpreadParity x = States.gaps();
        checks.due("create(7, 14), four extents", x.create(7, 14), FULL);
        checks.due("file(7, 1)", x.file(7, 1), 0);
        checks.due("count(0)", x.count(0), 14);
        checks.due("create(7, 13), three extents", x.create(7, 13), 3);
        // Four runs of one block each, then two with three of them.
        SpreadParity y = new SpreadParity(1);
        for (int f = 0; f < 7; f++) {
            y.create(f, 1);
        }
        y.create(7, 14);
        for (int f = 0; f < 7; f += 2) {
            y.remove(f);
        }
        checks.due("create(0, 4)", y.create(0, 4), FULL);
        checks.due("create(0, 3)", y.create(0, 3), 3);
        extents(checks, y, 0, 3, 3, 0, 1, 2, 1, 4, 1);
    }

    private static void notEnoughBlocks(Checks checks) {
        checks.sentence("or there are not enough free blocks: FULL");
        SpreadParity x = new SpreadParity(1);
        checks.due("create(0, 22), one run", x.create(0, 22), FULL);
        checks.due("create(0, 63), one run", x.create(0, 63), FULL);
        checks.due("create(0, 21), the whole run", x.create(0, 21), 1);
        checks.due("create(1, 1), no run", x.create(1, 1), FULL);
        checks.due("create(1, 63), no run", x.create(1, 63), FULL);
        checks.due("file(1, 0)", x.file(1, 0), 0);
        checks.due("file(1, 1)", x.file(1, 1), 0);
        SpreadParity y = States.withoutOddFiles(3, 3, 3, 3, 3, 6);
        checks.due("create(7, 13), three runs", y.create(7, 13), FULL);
        checks.due("create(7, 12), three runs", y.create(7, 12), 3);
        checks.due("count(0)", y.count(0), 0);
        SpreadParity z = new SpreadParity(3);
        z.create(0, 62);
        checks.due("create(1, 2)", z.create(1, 2), FULL);
        checks.due("create(1, 1)", z.create(1, 1), 1);
    }

    private static void numberOfExtents(Checks checks) {
        checks.sentence("Answers the number of extents.");
        int[] due = {1, 1, 1, 1, 1, 1, 2, 2, 2, 2, 3, 3, 3, FULL, FULL};
        for (int length = 1; length <= due.length; length++) {
            SpreadParity x = States.gaps();
            checks.due("create(7, " + length + ")", x.create(7, length), due[length - 1]);
            checks.due("file(7, 1)", x.file(7, 1), Math.max(0, due[length - 1]));
        }
    }
}
