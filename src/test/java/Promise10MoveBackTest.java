/** Promise 10: moveBack. */
public final class Promise10MoveBackTest {
    public static void main(String[] args) {
        Checks checks = new Checks("promise 10");
        wrongNumbers(checks);
        inOrder(checks);
        homesThatAreAbsent(checks);
        wrongCellsStayWrong(checks);
        brokenStripes(checks);
        words(checks);
        checks.end();
    }

    private static SpreadParity moved() {
        SpreadParity x = new SpreadParity(1);
        x.create(0, 3);
        x.write(0, 0, 12, 9);
        x.fail(2);
        x.rebuild(21);
        x.replace(2);
        return x;
    }

    private static void wrongNumbers(Checks checks) {
        SpreadParity x = moved();
        int[] bad = {0, -1, 22, Integer.MIN_VALUE, Integer.MAX_VALUE};
        for (int n : bad) {
            checks.due("moveBack(" + n + ")", x.moveBack(n), SpreadParity.REFUSED);
        }
        checks.same("what is refused", x, moved());
        checks.due("moveBack(21)", x.moveBack(21), 4);
        checks.due("moveBack(21), none is left", x.moveBack(21), 0);
    }

    private static void inOrder(Checks checks) {
        SpreadParity x = new SpreadParity(3);
        x.fail(2);
        x.rebuild(21);
        x.replace(2);
        int[] stripes = {0, 3, 4, 5, 7, 10, 11, 12, 14, 17, 18, 19};
        int done = 0;
        for (int n = 1; done < stripes.length; n++) {
            int now = Math.min(n, stripes.length - done);
            checks.due("moveBack(" + n + ")", x.moveBack(n), now);
            done += now;
            for (int i = 0; i < stripes.length; i++) {
                checks.due("after " + done + ": stripe(" + stripes[i] + ", 4) is 4",
                        x.stripe(stripes[i], 4) == 4 ? 1 : 0, i < done ? 1 : 0);
            }
            checks.due("disk(2, 1)", x.disk(2, 1), done);
        }
        checks.due("disk(0, 1)", x.disk(0, 1), 12);
    }

    private static void homesThatAreAbsent(Checks checks) {
        SpreadParity x = new SpreadParity(1);
        x.fail(2);
        x.rebuild(21);
        checks.due("moveBack(21)", x.moveBack(21), 0);
        checks.due("stripe(0, 4)", x.stripe(0, 4), 0);
        SpreadParity y = moved();
        y.fail(2);
        checks.due("moveBack(21), failed again", y.moveBack(21), 0);
        checks.due("count(2)", y.count(2), 0);
        // Lost columns at home do not come back by this.
        SpreadParity z = new SpreadParity(1);
        z.fail(2);
        z.replace(2);
        checks.due("moveBack(21), none is moved", z.moveBack(21), 0);
        checks.due("count(2)", z.count(2), 4);
    }

    private static void wrongCellsStayWrong(Checks checks) {
        SpreadParity x = moved();
        x.alter(0, 0, 7);
        checks.due("moveBack(1)", x.moveBack(1), 1);
        checks.due("stripe(0, 0)", x.stripe(0, 0), 1);
        checks.due("stripe(0, 4)", x.stripe(0, 4), 4);
        checks.due("alter(0, 0, 7)", x.alter(0, 0, 7), SpreadParity.DONE);
        checks.due("stripe(0, 0)", x.stripe(0, 0), 0);
        checks.due("read(0, 0)", x.read(0, 0), 12);
    }

    private static void brokenStripes(Checks checks) {
        SpreadParity x = moved();
        x.alter(0, 0, 7);
        x.fail(4);
        checks.due("stripe(0, 5)", x.stripe(0, 5), 1);
        checks.due("moveBack(1)", x.moveBack(1), 1);
        checks.due("stripe(0, 4)", x.stripe(0, 4), 4);
        checks.due("stripe(0, 5)", x.stripe(0, 5), 1);
        checks.due("stripe(0, 0)", x.stripe(0, 0), 1);
    }

    private static void words(Checks checks) {
        SpreadParity x = moved();
        x.moveBack(21);
        checks.due("fail(0)", x.fail(0), 4);
        checks.due("stripe(0, 0), no more on disk 0", x.stripe(0, 0), 0);
        checks.due("read(0, 0)", x.read(0, 0), 12);
        checks.due("fail(2)", x.fail(2), 4);
        checks.due("stripe(0, 0)", x.stripe(0, 0), 2);
        checks.due("read(0, 0)", x.read(0, 0), 12);
    }
}
