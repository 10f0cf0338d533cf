/** Promise 2: create. */
public final class Promise02CreateTest {
    public static void main(String[] args) {
        Checks checks = new Checks("promise 2");
        firstFit(checks);
        longestFirst(checks);
        threeExtentsAtMost(checks);
        notEnoughBlocks(checks);
        lastRunIsCut(checks);
        wrongNumbers(checks);
        wordsStay(checks);
        checks.end();
    }

    /** Free runs of 4 at 2, 3 at 8, 6 at 13 and 1 at 20; blocks 0, 1, 6, 7, 11, 12 and 19 are taken. */
    private static SpreadParity gaps() {
        SpreadParity x = new SpreadParity(1);
        x.create(0, 2);
        x.create(1, 4);
        x.create(2, 2);
        x.create(3, 3);
        x.create(4, 2);
        x.create(5, 6);
        x.create(6, 1);
        x.remove(1);
        x.remove(3);
        x.remove(5);
        return x;
    }

    private static void extents(Checks checks, SpreadParity x, int file, int... want) {
        for (int what = 0; what < want.length; what++) {
            checks.due("file(" + file + ", " + what + ")", x.file(file, what), want[what]);
        }
    }

    private static void firstFit(Checks checks) {
        SpreadParity x = gaps();
        checks.due("count(6)", x.count(6), 4);
        checks.due("create(7, 3)", x.create(7, 3), 1);
        extents(checks, x, 7, 3, 1, 2, 3, -1, -1, -1, -1);
        checks.due("create(1, 3)", x.create(1, 3), 1);
        extents(checks, x, 1, 3, 1, 8, 3, -1, -1, -1, -1);
        checks.due("create(3, 1)", x.create(3, 1), 1);
        extents(checks, x, 3, 1, 1, 5, 1, -1, -1, -1, -1);
        checks.due("create(5, 6)", x.create(5, 6), 1);
        extents(checks, x, 5, 6, 1, 13, 6, -1, -1, -1, -1);
        checks.due("count(0)", x.count(0), 1);

        // The run at block 0 is the first, though the one at the end is longer.
        SpreadParity y = new SpreadParity(1);
        y.create(0, 5);
        y.create(1, 5);
        y.remove(0);
        checks.due("create(2, 5)", y.create(2, 5), 1);
        extents(checks, y, 2, 5, 1, 0, 5, -1);
    }

    private static void longestFirst(Checks checks) {
        SpreadParity x = gaps();
        checks.due("create(7, 13)", x.create(7, 13), 3);
        extents(checks, x, 7, 13, 3, 13, 6, 2, 4, 8, 3);
        checks.due("count(0)", x.count(0), 1);

        // Of several longest ones the first is taken, and then the next.
        SpreadParity y = new SpreadParity(1);
        int[] lengths = {1, 4, 1, 5, 1, 5, 4};
        for (int f = 0; f < lengths.length; f++) {
            y.create(f, lengths[f]);
        }
        y.remove(1);
        y.remove(3);
        y.remove(5);
        checks.due("create(7, 11)", y.create(7, 11), 3);
        extents(checks, y, 7, 11, 3, 6, 5, 12, 5, 1, 1);
        checks.due("count(0)", y.count(0), 3);
        checks.due("count(6)", y.count(6), 1);
    }

    private static void threeExtentsAtMost(Checks checks) {
        SpreadParity x = gaps();
        SpreadParity twin = gaps();
        checks.due("create(7, 14)", x.create(7, 14), SpreadParity.FULL);
        checks.same("create(7, 14)", x, twin);
        checks.due("create(7, 13)", x.create(7, 13), 3);
    }

    private static void notEnoughBlocks(Checks checks) {
        SpreadParity x = gaps();
        SpreadParity twin = gaps();
        checks.due("create(7, 15)", x.create(7, 15), SpreadParity.FULL);
        checks.due("create(7, 63)", x.create(7, 63), SpreadParity.FULL);
        checks.same("create(7, 63)", x, twin);
        SpreadParity y = new SpreadParity(1);
        checks.due("create(0, 22)", y.create(0, 22), SpreadParity.FULL);
        checks.due("create(0, 21)", y.create(0, 21), 1);
        checks.due("create(1, 1)", y.create(1, 1), SpreadParity.FULL);
        checks.due("file(1, 0)", y.file(1, 0), 0);
        SpreadParity z = new SpreadParity(3);
        checks.due("create(7, 63)", z.create(7, 63), 1);
        extents(checks, z, 7, 63, 1, 0, 63, -1);
    }

    /** The rest goes to the longest run that is left, not to the first that would do. */
    private static void lastRunIsCut(Checks checks) {
        SpreadParity x = new SpreadParity(1);
        int[] lengths = {1, 2, 1, 4, 1, 6, 6};
        for (int f = 0; f < lengths.length; f++) {
            x.create(f, lengths[f]);
        }
        x.remove(1);
        x.remove(3);
        x.remove(5);
        checks.due("create(7, 7)", x.create(7, 7), 2);
        extents(checks, x, 7, 7, 2, 9, 6, 4, 1, -1, -1);
        checks.due("count(0)", x.count(0), 5);
        checks.due("count(6)", x.count(6), 2);
        checks.due("count(1)", x.count(1), 3);
    }

    private static void wrongNumbers(Checks checks) {
        SpreadParity x = new SpreadParity(3);
        int[] badFiles = {-1, 8, Integer.MIN_VALUE, Integer.MAX_VALUE};
        int[] badLengths = {0, -1, 64, Integer.MIN_VALUE, Integer.MAX_VALUE};
        for (int file : badFiles) {
            checks.due("create(" + file + ", 1)", x.create(file, 1), SpreadParity.REFUSED);
        }
        for (int length : badLengths) {
            checks.due("create(0, " + length + ")", x.create(0, length), SpreadParity.REFUSED);
        }
        checks.same("what is refused", x, new SpreadParity(3));
        checks.due("create(0, 3)", x.create(0, 3), 1);
        checks.due("create(0, 3) again", x.create(0, 3), SpreadParity.REFUSED);
        checks.due("create(0, 63) again", x.create(0, 63), SpreadParity.REFUSED);
        checks.due("create(1, 61)", x.create(1, 61), SpreadParity.FULL);
        checks.due("create(1, 60)", x.create(1, 60), 1);
        // A file that is there is refused before blocks are counted, and so are wrong numbers.
        checks.due("create(1, 1) again", x.create(1, 1), SpreadParity.REFUSED);
        checks.due("create(2, 64)", x.create(2, 64), SpreadParity.REFUSED);
        checks.due("create(2, 63)", x.create(2, 63), SpreadParity.FULL);
    }

    private static void wordsStay(Checks checks) {
        SpreadParity x = new SpreadParity(1);
        x.create(0, 4);
        x.write(0, 2, 55, 9);
        x.remove(0);
        x.create(1, 3);
        checks.due("read(1, 2)", x.read(1, 2), 55);
    }
}
