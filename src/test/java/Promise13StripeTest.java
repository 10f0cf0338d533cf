/** Promise 13: stripe. */
public final class Promise13StripeTest {
    public static void main(String[] args) {
        Checks checks = new Checks("promise 13");
        SpreadParity x = new SpreadParity(2);
        looks(checks, x, 8, 0, 0, 0, 0, 4, 0);
        x.alter(8, 2, 4);
        looks(checks, x, 8, 0, 0, 1, 0, 4, 0);
        x.alter(8, 3, 4);
        looks(checks, x, 8, 0, 0, 1, 1, 4, 1);
        x.alter(8, 2, 4);
        x.fail(3);
        looks(checks, x, 8, 2, 0, 0, 1, 4, 1);
        x.alter(8, 3, 4);
        looks(checks, x, 8, 2, 0, 0, 0, 4, 0);
        x.rebuild(21);
        looks(checks, x, 8, 0, 0, 0, 0, 0, 0);
        x.alter(8, 0, 4);
        looks(checks, x, 8, 1, 0, 0, 0, 0, 0);
        x.fail(5);
        looks(checks, x, 8, 1, 2, 0, 0, 0, 1);
        x.fail(1);
        looks(checks, x, 8, 2, 2, 0, 0, 4, 1);
        x.fail(6);
        x.fail(0);
        looks(checks, x, 8, 2, 2, 2, 2, 4, 1);
        looks(checks, x, 1, 2, 2, 2, 2, 4, 1);
        everyMovedColumn(checks);
        wrongNumbers(checks, x);
        checks.end();
    }

    private static void looks(Checks checks, SpreadParity x, int stripe, int... want) {
        for (int what = 0; what <= 5; what++) {
            checks.due("stripe(" + stripe + ", " + what + ")", x.stripe(stripe, what), want[what]);
        }
    }

    private static void everyMovedColumn(Checks checks) {
        int[] homes = {6, 1, 2, 3};
        for (int c = 0; c < 4; c++) {
            SpreadParity x = new SpreadParity(3);
            x.fail(homes[c]);
            x.rebuild(21);
            looks(checks, x, 18, 0, 0, 0, 0, c, 0);
        }
    }

    private static void wrongNumbers(Checks checks, SpreadParity x) {
        int[] badStripes = {-1, 14, 20, 21, Integer.MIN_VALUE, Integer.MAX_VALUE};
        int[] badWhats = {-1, 6, 7, Integer.MIN_VALUE, Integer.MAX_VALUE};
        for (int stripe : badStripes) {
            for (int what = 0; what <= 6; what++) {
                checks.due("stripe(" + stripe + ", " + what + ")", x.stripe(stripe, what), SpreadParity.REFUSED);
            }
        }
        for (int what : badWhats) {
            checks.due("stripe(13, " + what + ")", x.stripe(13, what), SpreadParity.REFUSED);
        }
    }
}
