/** Promise 15: count. */
public final class Promise15CountTest {
    public static void main(String[] args) {
        Checks checks = new Checks("promise 15");
        blocks(checks);
        columns(checks);
        wrongNumbers(checks);
        checks.end();
    }

    private static void looks(Checks checks, SpreadParity x, int... want) {
        for (int what = 0; what <= 6; what++) {
            checks.due("count(" + what + ")", x.count(what), want[what]);
        }
    }

    private static void blocks(Checks checks) {
        SpreadParity x = new SpreadParity(1);
        looks(checks, x, 21, 21, 0, 0, 0, 0, 1);
        x.create(0, 4);
        x.create(1, 5);
        x.create(2, 6);
        looks(checks, x, 6, 6, 0, 0, 0, 0, 1);
        x.remove(0);
        looks(checks, x, 10, 6, 0, 0, 0, 0, 2);
        x.create(3, 6);
        looks(checks, x, 4, 4, 0, 0, 0, 0, 1);
        x.create(4, 3);
        looks(checks, x, 1, 1, 0, 0, 0, 0, 1);
        x.create(5, 1);
        looks(checks, x, 0, 0, 0, 0, 0, 0, 0);
        x.remove(5);
        x.remove(1);
        looks(checks, x, 6, 6, 0, 0, 0, 0, 1);
        x.remove(3);
        looks(checks, x, 12, 6, 0, 0, 0, 0, 2);
        x.remove(2);
        looks(checks, x, 18, 18, 0, 0, 0, 0, 1);
    }

    private static void columns(Checks checks) {
        SpreadParity x = new SpreadParity(2);
        x.alter(0, 0, 1);
        x.alter(0, 1, 1);
        x.alter(13, 3, 1);
        looks(checks, x, 42, 42, 0, 3, 1, 0, 1);
        x.scrub(5);
        looks(checks, x, 42, 42, 0, 3, 1, 5, 1);
        x.fail(2);
        looks(checks, x, 42, 42, 8, 2, 1, 5, 1);
        x.fail(4);
        looks(checks, x, 42, 42, 16, 1, 5, 5, 1);
        x.scrub(9);
        looks(checks, x, 42, 42, 16, 1, 5, 0, 1);
    }

    private static void wrongNumbers(Checks checks) {
        SpreadParity x = new SpreadParity(1);
        int[] bad = {-1, 7, Integer.MIN_VALUE, Integer.MAX_VALUE};
        for (int what : bad) {
            checks.due("count(" + what + ")", x.count(what), SpreadParity.REFUSED);
        }
    }
}
