/** Promise 10: moveBack. */
public final class Promise10MoveBackTest {
    private static final int REFUSED = SpreadParity.REFUSED;
    /** The stripes with a column at home on disk 2, with 3 groups. */
    private static final int[] ON_DISK_2 = {0, 3, 4, 5, 7, 10, 11, 12, 14, 17, 18, 19};

    public static void main(String[] args) {
        Checks checks = new Checks("promise 10");
        amounts(checks);
        inOrder(checks);
        untilSoMany(checks);
        untilAllWereLookedAt(checks);
        withoutMovedColumns(checks);
        homesThatAreAbsent(checks);
        asItIs(checks);
        brokenStripes(checks);
        atHome(checks);
        howMany(checks);
        checks.end();
    }

    private static SpreadParity moved(int groups) {
        SpreadParity x = new SpreadParity(groups);
        x.fail(2);
        x.rebuild(21);
        x.replace(2);
        return x;
    }

    private static SpreadParity movedAndFilled() {
        SpreadParity x = States.moved();
        x.replace(2);
        return x;
    }

    private static void amounts(Checks checks) {
        checks.sentence("n 1 .. 21.");
        SpreadParity x = movedAndFilled();
        for (int n : Checks.outside(1, 21)) {
            checks.due("moveBack(" + n + ")", x.moveBack(n), REFUSED);
        }
        checks.same("what is refused", x, movedAndFilled());
        for (int n = 1; n <= 21; n++) {
            checks.due("moveBack(" + n + ")", moved(3).moveBack(n), Math.min(n, 12));
        }
    }

    private static void inOrder(Checks checks) {
        checks.sentence("Looks at the stripes in order from 0");
        SpreadParity x = moved(3);
        for (int done = 1; done <= ON_DISK_2.length; done++) {
            checks.due("moveBack(1)", x.moveBack(1), 1);
            for (int i = 0; i < ON_DISK_2.length; i++) {
                checks.due("after " + done + ": stripe(" + ON_DISK_2[i] + ", 4) is 4",
                        x.stripe(ON_DISK_2[i], 4) == 4 ? 1 : 0, i < done ? 1 : 0);
            }
            checks.due("disk(2, 1)", x.disk(2, 1), done);
        }
        // Every call begins at 0 again.
        SpreadParity y = moved(1);
        y.moveBack(2);
        y.fail(2);
        y.rebuild(1);
        y.replace(2);
        checks.due("moveBack(1)", y.moveBack(1), 1);
        checks.due("stripe(0, 4), moved again and looked at first", y.stripe(0, 4), 4);
        checks.due("stripe(4, 4)", y.stripe(4, 4), 2);
    }

    private static void untilSoMany(Checks checks) {
        checks.sentence("until n columns were moved back");
        SpreadParity x = moved(3);
        int went = 0;
        for (int n : new int[] {1, 2, 3, 4}) {
            checks.due("moveBack(" + n + ")", x.moveBack(n), n);
            went += n;
            checks.due("disk(2, 1)", x.disk(2, 1), went);
        }
        checks.due("stripe(18, 4), the next one", x.stripe(18, 4), 2);
        checks.due("moveBack(2), just as many as are left", x.moveBack(2), 2);
        checks.due("disk(2, 1)", x.disk(2, 1), 12);
    }

    private static void untilAllWereLookedAt(Checks checks) {
        checks.sentence("or all were looked at");
        for (int groups = 1; groups <= 3; groups++) {
            SpreadParity x = moved(groups);
            checks.due("moveBack(21)", x.moveBack(21), 4 * groups);
            checks.due("disk(2, 1)", x.disk(2, 1), 4 * groups);
            checks.due("moveBack(21), none is left", x.moveBack(21), 0);
        }
        // The last stripe of all is looked at, too.
        SpreadParity y = new SpreadParity(3);
        y.fail(5);
        y.rebuild(21);
        y.replace(5);
        y.moveBack(11);
        checks.due("stripe(20, 4)", y.stripe(20, 4), 3);
        checks.due("moveBack(21)", y.moveBack(21), 1);
        checks.due("stripe(20, 4)", y.stripe(20, 4), 4);
    }

    private static void withoutMovedColumns(Checks checks) {
        checks.sentence("a stripe with a moved column");
        checks.due("moveBack(21), all at home", States.filled().moveBack(21), 0);
        SpreadParity x = new SpreadParity(1);
        x.fail(2);
        x.replace(2);
        checks.due("moveBack(21), LOST at home", x.moveBack(21), 0);
        checks.due("count(2)", x.count(2), 4);
    }

    private static void homesThatAreAbsent(Checks checks) {
        checks.sentence("whose HOME is present");
        SpreadParity x = States.moved();
        checks.due("moveBack(21)", x.moveBack(21), 0);
        checks.due("stripe(0, 4)", x.stripe(0, 4), 0);
        x.replace(2);
        x.fail(2);
        checks.due("moveBack(21), failed again", x.moveBack(21), 0);
        checks.due("stripe(0, 4)", x.stripe(0, 4), 0);
        checks.due("count(2)", x.count(2), 0);
        // One that cannot go does not use up any of the n: stripe 0 waits for disk 2, stripe 6 goes to disk 4.
        SpreadParity y = States.moved();
        y.fail(4);
        y.rebuild(21);
        y.replace(4);
        checks.due("moveBack(1)", y.moveBack(1), 1);
        checks.due("stripe(0, 4)", y.stripe(0, 4), 0);
        checks.due("stripe(6, 4)", y.stripe(6, 4), 4);
    }

    private static void asItIs(Checks checks) {
        checks.sentence("its cell goes to the HOME as it is (WRONG if it was)");
        SpreadParity x = movedAndFilled();
        x.alter(0, 0, 7);
        checks.due("moveBack(1)", x.moveBack(1), 1);
        checks.due("stripe(0, 0), WRONG", x.stripe(0, 0), 1);
        checks.due("stripe(0, 4)", x.stripe(0, 4), 4);
        checks.due("alter(0, 0, 7)", x.alter(0, 0, 7), SpreadParity.DONE);
        checks.due("stripe(0, 0), WRONG no more", x.stripe(0, 0), 0);
        checks.due("read(0, 0)", x.read(0, 0), States.word(0));
        SpreadParity y = movedAndFilled();
        y.moveBack(21);
        checks.due("count(3), none was WRONG", y.count(3), 0);
        for (int i = 0; i < 21; i++) {
            checks.due("read(0, " + i + ")", y.read(0, i), States.word(i));
        }
        // Another column that is WRONG is left so.
        SpreadParity z = movedAndFilled();
        z.alter(0, 1, 7);
        z.moveBack(1);
        checks.due("stripe(0, 1)", z.stripe(0, 1), 1);
    }

    private static void brokenStripes(Checks checks) {
        checks.sentence("a stripe with a moved column whose HOME is present: its cell goes");
        SpreadParity x = movedAndFilled();
        x.alter(0, 0, 7);
        x.fail(4);
        checks.due("stripe(0, 5)", x.stripe(0, 5), 1);
        checks.due("moveBack(1), BROKEN", x.moveBack(1), 1);
        checks.due("stripe(0, 4)", x.stripe(0, 4), 4);
        checks.due("stripe(0, 5)", x.stripe(0, 5), 1);
        checks.due("stripe(0, 0)", x.stripe(0, 0), 1);
        // One beside a LOST column goes, too, and the LOST one stays LOST.
        SpreadParity y = movedAndFilled();
        y.fail(4);
        checks.due("moveBack(1)", y.moveBack(1), 1);
        checks.due("stripe(0, 4)", y.stripe(0, 4), 4);
        checks.due("stripe(0, 1)", y.stripe(0, 1), 2);
    }

    private static void atHome(Checks checks) {
        checks.sentence("and it is at home");
        SpreadParity x = movedAndFilled();
        x.moveBack(21);
        checks.due("disk(2, 1)", x.disk(2, 1), 4);
        checks.due("disk(0, 2)", x.disk(0, 2), 0);
        checks.due("fail(0)", x.fail(0), 4);
        checks.due("stripe(0, 0), no more on disk 0", x.stripe(0, 0), 0);
        checks.due("fail(2)", x.fail(2), 4);
        checks.due("stripe(0, 0), on disk 2", x.stripe(0, 0), 2);
        checks.due("read(0, 0)", x.read(0, 0), States.word(0));
    }

    private static void howMany(Checks checks) {
        checks.sentence("Answers how many went.");
        for (int n = 1; n <= 5; n++) {
            SpreadParity x = moved(1);
            checks.due("moveBack(" + n + ")", x.moveBack(n), Math.min(n, 4));
            checks.due("disk(2, 1)", x.disk(2, 1), Math.min(n, 4));
            checks.due("moveBack(21)", x.moveBack(21), 4 - Math.min(n, 4));
            checks.due("moveBack(21)", x.moveBack(21), 0);
        }
    }
}
