/** Promise 14: disk. */
public final class Promise14DiskTest {
    public static void main(String[] args) {
        Checks checks = new Checks("promise 14");
        SpreadParity x = new SpreadParity(2);
        for (int d = 0; d < 7; d++) {
            looks(checks, x, d, 1, 8, 0);
        }
        x.fail(2);
        looks(checks, x, 2, 0, 0, 0);
        looks(checks, x, 0, 1, 8, 0);
        x.rebuild(1);
        looks(checks, x, 0, 1, 9, 1);
        looks(checks, x, 3, 1, 8, 0);
        x.rebuild(21);
        looks(checks, x, 0, 1, 10, 2);
        looks(checks, x, 1, 1, 8, 0);
        looks(checks, x, 2, 0, 0, 0);
        looks(checks, x, 3, 1, 10, 2);
        // A wrong cell is a cell all the same.
        x.alter(0, 0, 1);
        looks(checks, x, 0, 1, 10, 2);
        x.replace(2);
        looks(checks, x, 2, 1, 0, 0);
        x.moveBack(1);
        looks(checks, x, 2, 1, 1, 0);
        looks(checks, x, 0, 1, 9, 1);
        x.fail(0);
        looks(checks, x, 0, 0, 0, 0);
        wrongNumbers(checks, x);
        checks.end();
    }

    private static void looks(Checks checks, SpreadParity x, int disk, int... want) {
        for (int what = 0; what <= 2; what++) {
            checks.due("disk(" + disk + ", " + what + ")", x.disk(disk, what), want[what]);
        }
    }

    private static void wrongNumbers(Checks checks, SpreadParity x) {
        int[] badDisks = {-1, 7, Integer.MIN_VALUE, Integer.MAX_VALUE};
        int[] badWhats = {-1, 3, Integer.MIN_VALUE, Integer.MAX_VALUE};
        for (int disk : badDisks) {
            for (int what = 0; what <= 3; what++) {
                checks.due("disk(" + disk + ", " + what + ")", x.disk(disk, what), SpreadParity.REFUSED);
            }
        }
        for (int what : badWhats) {
            checks.due("disk(6, " + what + ")", x.disk(6, what), SpreadParity.REFUSED);
        }
    }
}
