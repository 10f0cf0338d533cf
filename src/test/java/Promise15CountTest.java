/** Promise 15: count. */
public final class Promise15CountTest {
    private static final int REFUSED = SpreadParity.REFUSED;

    public static void main(String[] args) {
        Checks checks = new Checks("promise 15");
        freeBlocks(checks);
        longestRun(checks);
        noRun(checks);
        lostColumns(checks);
        wrongColumns(checks);
        brokenStripes(checks);
        nextVisited(checks);
        freeRuns(checks);
        otherWhats(checks);
        checks.end();
    }

    private static void freeBlocks(Checks checks) {
        checks.sentence("0 free blocks");
        SpreadParity x = new SpreadParity(3);
        checks.due("count(0), all", x.count(0), 63);
        x.create(0, 1);
        checks.due("count(0)", x.count(0), 62);
        x.create(1, 61);
        checks.due("count(0)", x.count(0), 1);
        x.create(2, 1);
        checks.due("count(0), none", x.count(0), 0);
        x.remove(1);
        checks.due("count(0)", x.count(0), 61);
        x.fail(0);
        checks.due("count(0), a disk less", x.count(0), 61);
    }

    private static void longestRun(Checks checks) {
        checks.sentence("1 the length of the longest RUN");
        SpreadParity x = new SpreadParity(1);
        checks.due("count(1), all", x.count(1), 21);
        x.create(0, 4);
        x.create(1, 5);
        x.create(2, 6);
        checks.due("count(1), the last blocks", x.count(1), 6);
        x.remove(0);
        checks.due("count(1), a shorter one before", x.count(1), 6);
        x.create(3, 6);
        checks.due("count(1), the first blocks", x.count(1), 4);
        x.remove(1);
        checks.due("count(1), two side by side", x.count(1), 9);
        x.remove(3);
        checks.due("count(1), a shorter one behind", x.count(1), 9);
        x.remove(2);
        checks.due("count(1), all", x.count(1), 21);
    }

    private static void noRun(Checks checks) {
        checks.sentence("0 if there is none");
        for (int groups = 1; groups <= 3; groups++) {
            SpreadParity x = new SpreadParity(groups);
            x.create(0, 21 * groups - 1);
            checks.due("count(1), one block", x.count(1), 1);
            x.create(1, 1);
            checks.due("count(1), none", x.count(1), 0);
            x.remove(0);
            checks.due("count(1)", x.count(1), 21 * groups - 1);
        }
    }

    private static void lostColumns(Checks checks) {
        checks.sentence("2 LOST columns");
        SpreadParity x = new SpreadParity(2);
        checks.due("count(2), none", x.count(2), 0);
        x.alter(0, 1, 1);
        checks.due("count(2), WRONG is not LOST", x.count(2), 0);
        x.fail(2);
        checks.due("count(2)", x.count(2), 8);
        x.rebuild(3);
        checks.due("count(2)", x.count(2), 5);
        for (int disk = 0; disk < 7; disk++) {
            x.fail(disk);
        }
        checks.due("count(2), all", x.count(2), 56);
        x.replace(0);
        checks.due("count(2), a new disk", x.count(2), 56);
    }

    private static void wrongColumns(Checks checks) {
        checks.sentence("3 WRONG columns");
        SpreadParity x = new SpreadParity(3);
        checks.due("count(3), none", x.count(3), 0);
        for (int s = 0; s < 21; s++) {
            for (int c = 0; c < 4; c++) {
                x.alter(s, c, 1 + s);
            }
            checks.due("count(3)", x.count(3), 4 * s + 4);
        }
        x.alter(20, 3, 21);
        checks.due("count(3), one less", x.count(3), 83);
        x.fail(2);
        checks.due("count(3), LOST is not WRONG", x.count(3), 71);
    }

    private static void brokenStripes(Checks checks) {
        checks.sentence("4 BROKEN stripes");
        SpreadParity x = new SpreadParity(3);
        checks.due("count(4), none", x.count(4), 0);
        for (int s = 0; s < 21; s++) {
            x.alter(s, 1, 1);
            checks.due("count(4), one WRONG", x.count(4), s);
            x.alter(s, 3, 1);
            checks.due("count(4), two WRONG", x.count(4), s + 1);
        }
        SpreadParity y = new SpreadParity(2);
        y.fail(2);
        checks.due("count(4), one LOST", y.count(4), 0);
        y.fail(4);
        checks.due("count(4), two LOST", y.count(4), 4);
    }

    private static void nextVisited(Checks checks) {
        checks.sentence("5 the stripe that scrub visits next");
        for (int groups = 1; groups <= 3; groups++) {
            SpreadParity x = new SpreadParity(groups);
            checks.due("count(5), the first of all", x.count(5), 0);
            for (int visits = 1; visits <= 7 * groups; visits++) {
                x.scrub(1);
                checks.due("count(5)", x.count(5), visits == 7 * groups ? 0 : visits);
            }
            x.scrub(21);
            checks.due("count(5)", x.count(5), groups == 2 ? 7 : 0);
            x.rebuild(5);
            x.moveBack(5);
            checks.due("count(5), other calls", x.count(5), groups == 2 ? 7 : 0);
        }
    }

    private static void freeRuns(Checks checks) {
        checks.sentence("6 the number of free RUNS");
        SpreadParity x = new SpreadParity(1);
        checks.due("count(6), one", x.count(6), 1);
        for (int f = 0; f < 7; f++) {
            x.create(f, 3);
        }
        checks.due("count(6), none", x.count(6), 0);
        int[][] steps = {{0, 1}, {2, 2}, {4, 3}, {6, 4}, {1, 3}, {5, 2}, {3, 1}};
        for (int[] step : steps) {
            x.remove(step[0]);
            checks.due("count(6) without " + step[0], x.count(6), step[1]);
        }
    }

    private static void otherWhats(Checks checks) {
        checks.sentence("Else REFUSED.");
        SpreadParity x = States.mixed();
        for (int what : Checks.outside(0, 6)) {
            checks.due("count(" + what + ")", x.count(what), REFUSED);
        }
    }
}
