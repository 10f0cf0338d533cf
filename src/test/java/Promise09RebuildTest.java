/** Promise 9: rebuild. */
public final class Promise09RebuildTest {
    public static void main(String[] args) {
        Checks checks = new Checks("promise 9");
        wrongNumbers(checks);
        toTheSpares(checks);
        toTheHomes(checks);
        inOrder(checks);
        noPlace(checks);
        homeBesideAMovedColumn(checks);
        brokenStripes(checks);
        words(checks);
        checks.end();
    }

    private static void wrongNumbers(Checks checks) {
        SpreadParity x = new SpreadParity(1);
        SpreadParity twin = new SpreadParity(1);
        x.fail(0);
        twin.fail(0);
        int[] bad = {0, -1, 22, Integer.MIN_VALUE, Integer.MAX_VALUE};
        for (int n : bad) {
            checks.due("rebuild(" + n + ")", x.rebuild(n), SpreadParity.REFUSED);
        }
        checks.same("what is refused", x, twin);
        checks.due("rebuild(1)", x.rebuild(1), 1);
        checks.due("rebuild(21)", x.rebuild(21), 3);
        checks.due("rebuild(21), all is done", x.rebuild(21), 0);
    }

    private static void toTheSpares(Checks checks) {
        SpreadParity x = new SpreadParity(1);
        x.fail(2);
        checks.due("rebuild(21)", x.rebuild(21), 4);
        checks.due("count(2)", x.count(2), 0);
        int[] moved = {0, 4, 4, 3, 2, 1, 4};
        for (int s = 0; s < 7; s++) {
            checks.due("stripe(" + s + ", 4)", x.stripe(s, 4), moved[s]);
            checks.due("disk(" + s + ", 2)", x.disk(s, 2), moved[s] == 4 ? 0 : 1);
        }
        checks.due("disk(2, 1)", x.disk(2, 1), 0);
    }

    private static void toTheHomes(Checks checks) {
        SpreadParity x = new SpreadParity(3);
        x.fail(2);
        x.replace(2);
        checks.due("rebuild(21)", x.rebuild(21), 12);
        checks.due("disk(2, 1)", x.disk(2, 1), 12);
        for (int s = 0; s < 21; s++) {
            checks.due("stripe(" + s + ", 4)", x.stripe(s, 4), 4);
        }
    }

    private static void inOrder(Checks checks) {
        SpreadParity x = new SpreadParity(3);
        x.fail(2);
        int[] stripes = {0, 3, 4, 5, 7, 10, 11, 12, 14, 17, 18, 19};
        int done = 0;
        for (int n = 1; done < stripes.length; n++) {
            int now = Math.min(n, stripes.length - done);
            checks.due("rebuild(" + n + ")", x.rebuild(n), now);
            done += now;
            for (int i = 0; i < stripes.length; i++) {
                checks.due("after " + done + ": stripe(" + stripes[i] + ", 4) is 4",
                        x.stripe(stripes[i], 4) == 4 ? 1 : 0, i < done ? 0 : 1);
            }
        }
    }

    private static void noPlace(Checks checks) {
        // Column 0 of stripe 0: neither its home, disk 2, nor its spare, disk 0, is present.
        SpreadParity x = new SpreadParity(1);
        x.fail(2);
        x.fail(0);
        checks.due("stripe(0, 5)", x.stripe(0, 5), 0);
        // Stripes 0 and 2 have no place, 3 and 5 are broken; 1 and 4 are left.
        checks.due("rebuild(1)", x.rebuild(1), 1);
        checks.due("stripe(1, 4)", x.stripe(1, 4), 3);
        checks.due("rebuild(21)", x.rebuild(21), 1);
        checks.due("stripe(4, 4)", x.stripe(4, 4), 2);
        checks.due("stripe(0, 0)", x.stripe(0, 0), 2);
        x.replace(0);
        checks.due("rebuild(1)", x.rebuild(1), 1);
        checks.due("stripe(0, 4)", x.stripe(0, 4), 0);

        // Column 1 of stripe 0: its home, disk 4, is absent, and the spare has column 0.
        SpreadParity y = new SpreadParity(1);
        y.fail(2);
        y.rebuild(21);
        y.fail(4);
        checks.due("stripe(0, 1)", y.stripe(0, 1), 2);
        checks.due("stripe(0, 5)", y.stripe(0, 5), 0);
        // Only stripe 6 has a place for what it lost.
        checks.due("rebuild(21)", y.rebuild(21), 1);
        checks.due("stripe(6, 4)", y.stripe(6, 4), 2);
        checks.due("stripe(0, 1)", y.stripe(0, 1), 2);
        checks.due("stripe(0, 4)", y.stripe(0, 4), 0);
        y.replace(2);
        checks.due("moveBack(1)", y.moveBack(1), 1);
        checks.due("rebuild(1)", y.rebuild(1), 1);
        checks.due("stripe(0, 4)", y.stripe(0, 4), 1);
    }

    private static void homeBesideAMovedColumn(Checks checks) {
        SpreadParity x = new SpreadParity(1);
        x.create(0, 3);
        x.write(0, 0, 3, 9);
        x.write(0, 1, 4, 9);
        x.fail(2);
        x.rebuild(21);
        x.fail(4);
        x.replace(4);
        checks.due("rebuild(1)", x.rebuild(1), 1);
        checks.due("stripe(0, 1)", x.stripe(0, 1), 0);
        checks.due("stripe(0, 4)", x.stripe(0, 4), 0);
        x.fail(0);
        checks.due("read(0, 0)", x.read(0, 0), 3);
        checks.due("read(0, 1)", x.read(0, 1), 4);
    }

    private static void brokenStripes(Checks checks) {
        SpreadParity x = new SpreadParity(1);
        x.alter(0, 1, 5);
        x.fail(2);
        checks.due("stripe(0, 5)", x.stripe(0, 5), 1);
        // A stripe that is passed over does not use up any of the n.
        checks.due("rebuild(3)", x.rebuild(3), 3);
        checks.due("stripe(0, 0)", x.stripe(0, 0), 2);
        checks.due("rebuild(21)", x.rebuild(21), 0);
        checks.due("stripe(0, 1)", x.stripe(0, 1), 1);
        x.alter(0, 1, 5);
        checks.due("rebuild(21)", x.rebuild(21), 1);

        SpreadParity y = new SpreadParity(1);
        y.fail(2);
        y.fail(4);
        y.replace(2);
        y.replace(4);
        int broken = y.count(4);
        checks.due("count(4)", broken, 2);
        checks.due("rebuild(21)", y.rebuild(21), 8 - 2 * broken);
        checks.due("rebuild(21)", y.rebuild(21), 0);
        checks.due("count(2)", y.count(2), 2 * broken);
        checks.due("count(4)", y.count(4), broken);
    }

    private static void words(Checks checks) {
        for (int disk = 0; disk < 7; disk++) {
            SpreadParity x = new SpreadParity(1);
            x.create(0, 21);
            for (int i = 0; i < 21; i++) {
                x.write(0, i, (i + 1) * 0x01234567, 9);
            }
            x.fail(disk);
            x.rebuild(21);
            // A second disk that is lost makes the words that were worked out count.
            x.fail((disk + 1) % 7);
            for (int i = 0; i < 21; i++) {
                checks.due("read(0, " + i + ")", x.read(0, i), (i + 1) * 0x01234567);
            }
        }
    }
}
