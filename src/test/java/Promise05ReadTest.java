/** Promise 5: read. */
public final class Promise05ReadTest {
    public static void main(String[] args) {
        Checks checks = new Checks("promise 5");
        ordinary(checks);
        wrongNumbers(checks);
        lostColumns(checks);
        wrongColumns(checks);
        onlyTheColumnReadIsMended(checks);
        brokenStripes(checks);
        checks.end();
    }

    private static SpreadParity filled() {
        SpreadParity x = new SpreadParity(1);
        x.create(0, 21);
        x.write(0, 0, 1, 9);
        x.write(0, 1, Integer.MIN_VALUE, 9);
        x.write(0, 2, -1, 9);
        x.write(0, 20, Integer.MAX_VALUE, 9);
        return x;
    }

    private static void ordinary(Checks checks) {
        SpreadParity x = filled();
        checks.due("read(0, 0)", x.read(0, 0), 1);
        checks.due("read(0, 1)", x.read(0, 1), Integer.MIN_VALUE);
        checks.due("read(0, 2)", x.read(0, 2), -1);
        checks.due("read(0, 3)", x.read(0, 3), 0);
        checks.due("read(0, 20)", x.read(0, 20), Integer.MAX_VALUE);
    }

    private static void wrongNumbers(Checks checks) {
        SpreadParity x = filled();
        int[][] bad = {
            {-1, 0}, {8, 0}, {1, 0}, {0, -1}, {0, 21}, {0, Integer.MAX_VALUE}, {0, Integer.MIN_VALUE},
            {Integer.MIN_VALUE, 0}, {Integer.MAX_VALUE, 0},
        };
        for (int[] at : bad) {
            checks.due("read(" + at[0] + ", " + at[1] + ")", x.read(at[0], at[1]), SpreadParity.NONE);
        }
        // Blocks of another file stand before and behind this one's.
        SpreadParity y = new SpreadParity(1);
        y.create(0, 3);
        y.create(1, 3);
        y.create(2, 3);
        checks.due("read(1, -1)", y.read(1, -1), SpreadParity.NONE);
        checks.due("read(1, 3)", y.read(1, 3), SpreadParity.NONE);
    }

    private static void lostColumns(Checks checks) {
        int[] disks = {2, 4, 5, 6};
        for (int disk : disks) {
            SpreadParity x = filled();
            x.fail(disk);
            checks.due("disk " + disk + " absent: read(0, 0)", x.read(0, 0), 1);
            checks.due("disk " + disk + " absent: read(0, 1)", x.read(0, 1), Integer.MIN_VALUE);
            checks.due("disk " + disk + " absent: read(0, 2)", x.read(0, 2), -1);
            checks.due("disk " + disk + " absent: count(2)", x.count(2), 4);
        }
    }

    private static void wrongColumns(Checks checks) {
        SpreadParity x = filled();
        x.alter(0, 1, 77);
        checks.due("count(3)", x.count(3), 1);
        checks.due("read(0, 1)", x.read(0, 1), Integer.MIN_VALUE);
        checks.due("stripe(0, 1)", x.stripe(0, 1), 0);
        checks.due("count(3)", x.count(3), 0);
        checks.due("read(0, 1)", x.read(0, 1), Integer.MIN_VALUE);
        x.fail(2);
        checks.due("read(0, 0)", x.read(0, 0), 1);
    }

    private static void onlyTheColumnReadIsMended(Checks checks) {
        SpreadParity x = filled();
        x.alter(0, 1, 77);
        x.alter(1, 0, 77);
        checks.due("read(0, 0)", x.read(0, 0), 1);
        checks.due("read(0, 2)", x.read(0, 2), -1);
        checks.due("stripe(0, 1)", x.stripe(0, 1), 1);
        checks.due("read(0, 1)", x.read(0, 1), Integer.MIN_VALUE);
        checks.due("stripe(0, 1)", x.stripe(0, 1), 0);
        checks.due("stripe(1, 0)", x.stripe(1, 0), 1);
        x.alter(0, 3, 5);
        checks.due("read(0, 0)", x.read(0, 0), 1);
        checks.due("stripe(0, 3)", x.stripe(0, 3), 1);
    }

    private static void brokenStripes(Checks checks) {
        SpreadParity x = filled();
        x.alter(0, 0, 77);
        x.alter(0, 3, 77);
        checks.due("read(0, 0)", x.read(0, 0), SpreadParity.UNREADABLE);
        checks.due("read(0, 1)", x.read(0, 1), Integer.MIN_VALUE);
        checks.due("read(0, 2)", x.read(0, 2), -1);
        checks.due("stripe(0, 0)", x.stripe(0, 0), 1);
        checks.due("stripe(0, 3)", x.stripe(0, 3), 1);
        x.alter(0, 3, 77);
        checks.due("read(0, 0)", x.read(0, 0), 1);
        x.alter(0, 1, 3);
        x.fail(2);
        checks.due("read(0, 0)", x.read(0, 0), SpreadParity.UNREADABLE);
        checks.due("read(0, 1)", x.read(0, 1), SpreadParity.UNREADABLE);
        checks.due("read(0, 2)", x.read(0, 2), -1);
        x.fail(5);
        checks.due("read(0, 2)", x.read(0, 2), SpreadParity.UNREADABLE);
    }
}
