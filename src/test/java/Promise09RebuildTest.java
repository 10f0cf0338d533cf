/** Promise 9: rebuild. */
public final class Promise09RebuildTest {
    private static final int REFUSED = SpreadParity.REFUSED;
    /** The stripes with a column at home on disk 2, with 3 groups. */
    private static final int[] ON_DISK_2 = {0, 3, 4, 5, 7, 10, 11, 12, 14, 17, 18, 19};

    public static void main(String[] args) {
        Checks checks = new Checks("promise 9");
        amounts(checks);
        inOrder(checks);
        untilSoMany(checks);
        untilAllWereLookedAt(checks);
        brokenStripes(checks);
        withoutLostColumns(checks);
        homePresent(checks);
        sparePresent(checks);
        spareAbsent(checks);
        spareTaken(checks);
        homeBesideAMovedColumn(checks);
        workedOut(checks);
        atHomeOrMoved(checks);
        howMany(checks);
        checks.end();
    }

    private static SpreadParity lost(int groups) {
        SpreadParity x = new SpreadParity(groups);
        x.fail(2);
        return x;
    }

    private static void amounts(Checks checks) {
        checks.sentence("n 1 .. 21.");
        SpreadParity x = States.mixed();
        for (int n : Checks.outside(1, 21)) {
            checks.due("rebuild(" + n + ")", x.rebuild(n), REFUSED);
        }
        checks.same("what is refused", x, States.mixed());
        for (int n = 1; n <= 21; n++) {
            checks.due("rebuild(" + n + ")", lost(3).rebuild(n), Math.min(n, 12));
        }
    }

    private static void inOrder(Checks checks) {
        checks.sentence("Looks at the stripes in order from 0");
        SpreadParity x = lost(3);
        for (int done = 1; done <= ON_DISK_2.length; done++) {
            checks.due("rebuild(1)", x.rebuild(1), 1);
            for (int i = 0; i < ON_DISK_2.length; i++) {
                checks.due("after " + done + ": stripe(" + ON_DISK_2[i] + ", 4) is 4",
                        x.stripe(ON_DISK_2[i], 4) == 4 ? 1 : 0, i < done ? 0 : 1);
            }
        }
        // Every call begins at 0 again.
        SpreadParity y = lost(1);
        y.rebuild(2);
        y.fail(0);
        y.replace(0);
        checks.due("rebuild(1)", y.rebuild(1), 1);
        checks.due("stripe(0, 4), lost again and looked at first", y.stripe(0, 4), 0);
    }

    private static void untilSoMany(Checks checks) {
        checks.sentence("until n columns were worked out");
        SpreadParity x = lost(3);
        int left = 12;
        for (int n : new int[] {1, 2, 3, 4}) {
            checks.due("rebuild(" + n + ")", x.rebuild(n), n);
            left -= n;
            checks.due("count(2)", x.count(2), left);
        }
        checks.due("stripe(18, 2), the next one", x.stripe(18, 2), 2);
        checks.due("rebuild(2), just as many as are left", x.rebuild(2), 2);
        checks.due("count(2)", x.count(2), 0);
    }

    private static void untilAllWereLookedAt(Checks checks) {
        checks.sentence("or all were looked at");
        for (int groups = 1; groups <= 3; groups++) {
            SpreadParity x = lost(groups);
            checks.due("rebuild(21)", x.rebuild(21), 4 * groups);
            checks.due("count(2)", x.count(2), 0);
            checks.due("rebuild(21), none is left", x.rebuild(21), 0);
        }
        // The last stripe of all is looked at, too.
        SpreadParity y = new SpreadParity(3);
        y.fail(5);
        y.rebuild(11);
        checks.due("stripe(20, 3)", y.stripe(20, 3), 2);
        checks.due("rebuild(21)", y.rebuild(21), 1);
        checks.due("stripe(20, 3)", y.stripe(20, 3), 0);
    }

    private static void brokenStripes(Checks checks) {
        checks.sentence("a stripe that is not BROKEN");
        SpreadParity x = new SpreadParity(1);
        x.alter(0, 1, 5);
        x.fail(2);
        checks.due("stripe(0, 5), LOST and WRONG", x.stripe(0, 5), 1);
        // A stripe that is passed over does not use up any of the n.
        checks.due("rebuild(3)", x.rebuild(3), 3);
        checks.due("stripe(0, 0)", x.stripe(0, 0), 2);
        checks.due("stripe(0, 1)", x.stripe(0, 1), 1);
        checks.due("rebuild(21)", x.rebuild(21), 0);
        x.alter(0, 1, 5);
        checks.due("rebuild(21), no more BROKEN", x.rebuild(21), 1);

        SpreadParity y = new SpreadParity(1);
        y.fail(2);
        y.fail(4);
        y.replace(2);
        y.replace(4);
        checks.due("count(4), two LOST in two stripes", y.count(4), 2);
        checks.due("rebuild(21)", y.rebuild(21), 4);
        checks.due("rebuild(21)", y.rebuild(21), 0);
        checks.due("count(2)", y.count(2), 4);
        checks.due("count(4)", y.count(4), 2);
    }

    private static void withoutLostColumns(Checks checks) {
        checks.sentence("and has a LOST column");
        SpreadParity x = States.filled();
        x.alter(0, 0, 5);
        checks.due("rebuild(21), WRONG is not LOST", x.rebuild(21), 0);
        checks.due("stripe(0, 0)", x.stripe(0, 0), 1);
        checks.due("rebuild(21), none is LOST", new SpreadParity(3).rebuild(21), 0);
        // Stripes 1 and 2 have nothing LOST and are passed over.
        SpreadParity y = lost(1);
        y.alter(1, 0, 5);
        checks.due("rebuild(2)", y.rebuild(2), 2);
        checks.due("stripe(3, 4)", y.stripe(3, 4), 3);
        checks.due("stripe(1, 0)", y.stripe(1, 0), 1);
    }

    /** The spare is present, too, and not used. */
    private static void homePresent(Checks checks) {
        checks.sentence("whose HOME is present");
        SpreadParity x = lost(3);
        x.replace(2);
        checks.due("rebuild(21)", x.rebuild(21), 12);
        checks.due("disk(2, 1)", x.disk(2, 1), 12);
        for (int s = 0; s < 21; s++) {
            checks.due("stripe(" + s + ", 4)", x.stripe(s, 4), 4);
        }
        // The home is present and the spare is not.
        SpreadParity y = lost(1);
        y.replace(2);
        y.fail(0);
        checks.due("rebuild(1)", y.rebuild(1), 1);
        checks.due("stripe(0, 0)", y.stripe(0, 0), 0);
        checks.due("stripe(0, 4)", y.stripe(0, 4), 4);
    }

    private static void sparePresent(Checks checks) {
        checks.sentence("or else whose SPARE is present");
        SpreadParity x = lost(1);
        checks.due("rebuild(21)", x.rebuild(21), 4);
        int[] moved = {0, 4, 4, 3, 2, 1, 4};
        for (int s = 0; s < 7; s++) {
            checks.due("stripe(" + s + ", 4)", x.stripe(s, 4), moved[s]);
            checks.due("disk(" + s + ", 2)", x.disk(s, 2), moved[s] == 4 ? 0 : 1);
        }
        checks.due("disk(2, 1)", x.disk(2, 1), 0);
        checks.due("count(2)", x.count(2), 0);
    }

    /** Column 0 of stripe 0: neither its home, disk 2, nor its spare, disk 0, is present. */
    private static void spareAbsent(Checks checks) {
        checks.sentence("whose SPARE is present and");
        SpreadParity x = lost(1);
        x.fail(0);
        checks.due("stripe(0, 5)", x.stripe(0, 5), 0);
        // Stripes 0 and 2 have no place, 3 and 5 are broken; 1 and 4 are left.
        checks.due("rebuild(1)", x.rebuild(1), 1);
        checks.due("stripe(1, 4)", x.stripe(1, 4), 3);
        checks.due("rebuild(21)", x.rebuild(21), 1);
        checks.due("stripe(4, 4)", x.stripe(4, 4), 2);
        checks.due("stripe(0, 0)", x.stripe(0, 0), 2);
        checks.due("stripe(0, 4)", x.stripe(0, 4), 4);
        x.replace(0);
        checks.due("rebuild(1), on a new spare", x.rebuild(1), 1);
        checks.due("stripe(0, 4)", x.stripe(0, 4), 0);
    }

    /** Column 1 of stripe 0: its home, disk 4, is absent, and the spare has column 0. */
    private static void spareTaken(Checks checks) {
        checks.sentence("and has no moved column of this stripe");
        SpreadParity x = States.moved();
        x.fail(4);
        checks.due("stripe(0, 1)", x.stripe(0, 1), 2);
        checks.due("stripe(0, 5)", x.stripe(0, 5), 0);
        // Only stripe 6 has a place for what it lost: the moved columns of others do not count.
        checks.due("rebuild(21)", x.rebuild(21), 1);
        checks.due("stripe(6, 4)", x.stripe(6, 4), 2);
        checks.due("stripe(0, 1)", x.stripe(0, 1), 2);
        checks.due("stripe(0, 4)", x.stripe(0, 4), 0);
        x.replace(2);
        checks.due("moveBack(1)", x.moveBack(1), 1);
        checks.due("rebuild(1), the spare is free", x.rebuild(1), 1);
        checks.due("stripe(0, 4)", x.stripe(0, 4), 1);
        // Disk 0 is the spare of stripes 0, 7 and 14: each may have one moved column there.
        SpreadParity y = lost(3);
        checks.due("rebuild(21)", y.rebuild(21), 12);
        checks.due("disk(0, 2)", y.disk(0, 2), 3);
    }

    private static void homeBesideAMovedColumn(Checks checks) {
        checks.sentence("whose HOME is present, or else");
        SpreadParity x = States.moved();
        x.fail(4);
        x.replace(4);
        checks.due("rebuild(1)", x.rebuild(1), 1);
        checks.due("stripe(0, 1)", x.stripe(0, 1), 0);
        checks.due("stripe(0, 4), the other one", x.stripe(0, 4), 0);
        x.fail(0);
        checks.due("read(0, 0)", x.read(0, 0), States.word(0));
        checks.due("read(0, 1)", x.read(0, 1), States.word(1));
    }

    private static void workedOut(Checks checks) {
        checks.sentence("the column is worked out from the other three and is not LOST any more");
        for (int disk = 0; disk < 7; disk++) {
            SpreadParity x = States.filled();
            x.fail(disk);
            checks.due("rebuild(21)", x.rebuild(21), 4);
            checks.due("count(2)", x.count(2), 0);
            checks.due("count(3)", x.count(3), 0);
            // A second disk that is lost makes the words that were worked out count.
            x.fail((disk + 1) % 7);
            x.replace((disk + 1) % 7);
            x.rebuild(21);
            checks.due("count(2)", x.count(2), 0);
            checks.due("count(3)", x.count(3), 0);
            for (int i = 0; i < 21; i++) {
                checks.due("read(0, " + i + ")", x.read(0, i), States.word(i));
            }
        }
    }

    private static void atHomeOrMoved(Checks checks) {
        checks.sentence("it is at home in the first case, moved in the second");
        for (int s = 0; s < 7; s++) {
            for (int c = 0; c < 4; c++) {
                SpreadParity x = new SpreadParity(1);
                x.fail(States.home(s, c));
                x.rebuild(21);
                checks.due("home absent: stripe(" + s + ", 4)", x.stripe(s, 4), c);
                checks.due("home absent: disk(" + s + ", 2)", x.disk(s, 2), 1);
                SpreadParity y = new SpreadParity(1);
                y.fail(States.home(s, c));
                y.replace(States.home(s, c));
                y.rebuild(21);
                checks.due("home present: stripe(" + s + ", 4)", y.stripe(s, 4), 4);
                checks.due("home present: disk(" + s + ", 2)", y.disk(s, 2), 0);
                checks.due("home present: its cells", y.disk(States.home(s, c), 1), 4);
            }
        }
    }

    private static void howMany(Checks checks) {
        checks.sentence("Answers how many were worked out.");
        for (int n = 1; n <= 5; n++) {
            SpreadParity x = lost(1);
            checks.due("rebuild(" + n + ")", x.rebuild(n), Math.min(n, 4));
            checks.due("count(2)", x.count(2), 4 - Math.min(n, 4));
            checks.due("rebuild(21)", x.rebuild(21), 4 - Math.min(n, 4));
            checks.due("rebuild(21)", x.rebuild(21), 0);
        }
    }
}
