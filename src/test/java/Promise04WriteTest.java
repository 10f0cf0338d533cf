/** Promise 4: write. */
public final class Promise04WriteTest {
    private static final int REFUSED = SpreadParity.REFUSED;
    private static final int CRASHED = SpreadParity.CRASHED;

    public static void main(String[] args) {
        Checks checks = new Checks("promise 4");
        everyCell(checks);
        wrongNumbers(checks);
        cuts(checks);
        cutsWithItsColumnLost(checks);
        cutsWithParityLost(checks);
        cutsWithAnotherLost(checks);
        wrongColumnsAreMended(checks);
        brokenStripes(checks);
        movedColumns(checks);
        severalExtents(checks);
        checks.end();
    }

    private static SpreadParity filled() {
        SpreadParity x = new SpreadParity(1);
        x.create(0, 21);
        for (int i = 0; i < 6; i++) {
            x.write(0, i, 100 + i, 9);
        }
        return x;
    }

    /** The parity fits if a block that is lost reads as it was written. */
    private static void blocks(Checks checks, String when, SpreadParity x, int... want) {
        for (int i = 0; i < want.length; i++) {
            checks.due(when + ": read(0, " + i + ")", x.read(0, i), want[i]);
        }
    }

    private static void everyCell(Checks checks) {
        SpreadParity x = new SpreadParity(3);
        x.create(3, 63);
        for (int i = 0; i < 63; i++) {
            checks.due("write(3, " + i + ")", x.write(3, i, i * 0x9E3779B9, 4 + i), SpreadParity.DONE);
        }
        for (int i = 0; i < 63; i++) {
            checks.due("read(3, " + i + ")", x.read(3, i), i * 0x9E3779B9);
        }
        x.fail(0);
        for (int i = 0; i < 63; i++) {
            checks.due("disk 0 absent: read(3, " + i + ")", x.read(3, i), i * 0x9E3779B9);
        }
    }

    private static void wrongNumbers(Checks checks) {
        SpreadParity x = new SpreadParity(1);
        x.create(0, 3);
        x.create(1, 18);
        int[][] bad = {
            {-1, 0}, {8, 0}, {2, 0}, {0, -1}, {0, 3}, {0, Integer.MAX_VALUE}, {0, Integer.MIN_VALUE},
            {Integer.MIN_VALUE, 0}, {Integer.MAX_VALUE, 0}, {1, 18}, {1, -1}, {1, -3},
        };
        for (int[] at : bad) {
            for (int cut = -1; cut <= 4; cut++) {
                checks.due("write(" + at[0] + ", " + at[1] + ", 5, " + cut + ")",
                        x.write(at[0], at[1], 5, cut), REFUSED);
            }
        }
        for (int i = 0; i < 18; i++) {
            checks.due("read(1, " + i + ")", x.read(1, i), 0);
        }
        blocks(checks, "refused", x, 0, 0, 0);
        // The numbers are tested before the stripe is.
        x.alter(1, 0, 1);
        x.alter(1, 1, 1);
        checks.due("write(0, 3, 5, 9)", x.write(0, 3, 5, 9), REFUSED);
    }

    private static void cuts(Checks checks) {
        int[] wholeCuts = {-1, 4, 9, Integer.MIN_VALUE, Integer.MAX_VALUE};
        for (int cut : wholeCuts) {
            SpreadParity x = filled();
            checks.due("cut " + cut, x.write(0, 1, -7, cut), SpreadParity.DONE);
            blocks(checks, "cut " + cut, x, 100, -7, 102, 103);
        }
        for (int cut = 0; cut <= 3; cut++) {
            SpreadParity x = filled();
            int now = cut < 2 ? 101 : -7;
            checks.due("cut " + cut, x.write(0, 1, -7, cut), CRASHED);
            blocks(checks, "cut " + cut, x, 100, now, 102, 103);
            checks.due("cut " + cut + ": count(3)", x.count(3), 0);
            x.fail(4);
            blocks(checks, "cut " + cut + ", its column lost", x, 100, now, 102, 103);
            SpreadParity y = filled();
            y.write(0, 1, -7, cut);
            y.fail(2);
            blocks(checks, "cut " + cut + ", another lost", y, 100, now, 102, 103);
        }
    }

    private static void cutsWithItsColumnLost(Checks checks) {
        for (int cut = 0; cut <= 4; cut++) {
            SpreadParity x = filled();
            x.fail(4);
            int now = cut <= 2 ? 101 : -7;
            String when = "its column lost, cut " + cut;
            checks.due(when, x.write(0, 1, -7, cut), cut <= 3 ? CRASHED : SpreadParity.DONE);
            checks.due(when + ": stripe(0, 1)", x.stripe(0, 1), 2);
            blocks(checks, when, x, 100, now, 102, 103);
            x.rebuild(21);
            checks.due(when + ": stripe(0, 1)", x.stripe(0, 1), 0);
            blocks(checks, when + ", rebuilt", x, 100, now, 102, 103);
            x.fail(2);
            blocks(checks, when + ", rebuilt, another lost", x, 100, now, 102, 103);
        }
    }

    private static void cutsWithParityLost(Checks checks) {
        for (int cut = 0; cut <= 4; cut++) {
            SpreadParity x = filled();
            x.fail(6);
            int now = cut <= 1 ? 101 : -7;
            String when = "parity lost, cut " + cut;
            checks.due(when, x.write(0, 1, -7, cut), cut <= 3 ? CRASHED : SpreadParity.DONE);
            checks.due(when + ": stripe(0, 3)", x.stripe(0, 3), 2);
            blocks(checks, when, x, 100, now, 102);
            x.rebuild(21);
            x.fail(5);
            blocks(checks, when + ", rebuilt, another lost", x, 100, now, 102);
        }
    }

    private static void cutsWithAnotherLost(Checks checks) {
        for (int cut = 0; cut <= 4; cut++) {
            SpreadParity x = filled();
            x.fail(2);
            int now = cut <= 1 ? 101 : -7;
            String when = "another lost, cut " + cut;
            checks.due(when, x.write(0, 1, -7, cut), cut <= 3 ? CRASHED : SpreadParity.DONE);
            checks.due(when + ": stripe(0, 0)", x.stripe(0, 0), 2);
            blocks(checks, when, x, 100, now, 102);
        }
    }

    /** Mending stands before the steps, so it is done whatever the cut. */
    private static void wrongColumnsAreMended(Checks checks) {
        for (int cut = 0; cut <= 4; cut++) {
            for (int column = 0; column < 4; column++) {
                SpreadParity x = filled();
                x.alter(0, column, 0x5050);
                x.alter(1, column, 0x5050);
                String when = "column " + column + " wrong, cut " + cut;
                checks.due(when, x.write(0, 1, -7, cut), cut <= 3 ? CRASHED : SpreadParity.DONE);
                checks.due(when + ": stripe(0, " + column + ")", x.stripe(0, column), 0);
                checks.due(when + ": stripe(1, " + column + ")", x.stripe(1, column), 1);
                blocks(checks, when, x, 100, cut <= 1 ? 101 : -7, 102);
                x.fail(2);
                blocks(checks, when + ", one lost", x, 100, cut <= 1 ? 101 : -7, 102);
            }
        }
    }

    private static void brokenStripes(Checks checks) {
        for (int cut = -1; cut <= 4; cut++) {
            SpreadParity x = filled();
            SpreadParity twin = filled();
            SpreadParity[] both = {x, twin};
            for (SpreadParity one : both) {
                one.alter(0, 0, 1);
                one.alter(0, 3, 1);
                one.fail(0);
                one.fail(3);
            }
            checks.due("two wrong, cut " + cut, x.write(0, 1, -7, cut), SpreadParity.BROKEN);
            checks.due("two wrong, cut " + cut, x.write(0, 0, -7, cut), SpreadParity.BROKEN);
            checks.due("two lost, cut " + cut, x.write(0, 4, -7, cut), SpreadParity.BROKEN);
            checks.same("a write to a broken stripe", x, twin);
            checks.due("read(0, 1)", x.read(0, 1), 101);
            checks.due("read(0, 4)", x.read(0, 4), 104);
            checks.due("alter(0, 3, 1)", x.alter(0, 3, 1), SpreadParity.DONE);
            blocks(checks, "no more broken", x, 100, 101, 102);
        }
        SpreadParity y = filled();
        y.alter(0, 2, 1);
        y.fail(2);
        checks.due("one wrong and one lost", y.write(0, 1, 5, 9), SpreadParity.BROKEN);
        checks.due("one lost in another stripe", y.write(0, 3, 5, 9), SpreadParity.DONE);
    }

    private static void movedColumns(Checks checks) {
        SpreadParity x = filled();
        x.fail(4);
        x.rebuild(21);
        checks.due("stripe(0, 4)", x.stripe(0, 4), 1);
        checks.due("write to a moved column", x.write(0, 1, 9, 9), SpreadParity.DONE);
        checks.due("write with a moved column", x.write(0, 0, 8, 9), SpreadParity.DONE);
        x.fail(5);
        blocks(checks, "one moved, one lost", x, 8, 9, 102);
        x.replace(5);
        x.rebuild(21);
        x.fail(0);
        blocks(checks, "the moved one lost", x, 8, 9, 102);
    }

    private static void severalExtents(Checks checks) {
        SpreadParity x = new SpreadParity(1);
        for (int f = 0; f < 7; f++) {
            x.create(f, 3);
        }
        x.remove(1);
        x.remove(3);
        x.remove(5);
        checks.due("create(7, 8)", x.create(7, 8), 3);
        for (int i = 0; i < 8; i++) {
            checks.due("write(7, " + i + ")", x.write(7, i, 40 + i, 9), SpreadParity.DONE);
        }
        checks.due("write(7, 8)", x.write(7, 8, 48, 9), REFUSED);
        x.remove(7);
        int[] starts = {3, 9, 15};
        for (int e = 0; e < 3; e++) {
            checks.due("create", x.create(e == 0 ? 1 : e == 1 ? 3 : 5, 3), 1);
            for (int i = 0; i < 3; i++) {
                int block = starts[e] + i;
                checks.due("block " + block, x.read(e == 0 ? 1 : e == 1 ? 3 : 5, i), e == 2 && i == 2 ? 0 : 40 + 3 * e + i);
            }
        }
        for (int f = 0; f < 7; f += 2) {
            for (int i = 0; i < 3; i++) {
                checks.due("read(" + f + ", " + i + ")", x.read(f, i), 0);
            }
        }
    }
}
