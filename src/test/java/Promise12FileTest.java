/** Promise 12: file. */
public final class Promise12FileTest {
    public static void main(String[] args) {
        Checks checks = new Checks("promise 12");
        SpreadParity x = new SpreadParity(1);
        int[] lengths = {2, 3, 2, 4, 2, 5, 3};
        for (int f = 0; f < lengths.length; f++) {
            x.create(f, lengths[f]);
        }
        looks(checks, x, 5, 5, 1, 13, 5, -1, -1, -1, -1);
        looks(checks, x, 7, 0, 0, -1, -1, -1, -1, -1, -1);
        x.remove(1);
        x.remove(3);
        x.remove(5);
        looks(checks, x, 5, 0, 0, -1, -1, -1, -1, -1, -1);
        x.create(7, 10);
        looks(checks, x, 7, 10, 3, 13, 5, 7, 4, 2, 1);
        x.remove(7);
        looks(checks, x, 7, 0, 0, -1, -1, -1, -1, -1, -1);
        x.create(7, 7);
        looks(checks, x, 7, 7, 2, 13, 5, 7, 2, -1, -1);
        x.remove(7);
        x.create(7, 4);
        looks(checks, x, 7, 4, 1, 7, 4, -1, -1, -1, -1);
        looks(checks, x, 0, 2, 1, 0, 2, -1, -1, -1, -1);
        wrongNumbers(checks, x);
        checks.end();
    }

    private static void looks(Checks checks, SpreadParity x, int file, int... want) {
        for (int what = 0; what <= 7; what++) {
            checks.due("file(" + file + ", " + what + ")", x.file(file, what), want[what]);
        }
    }

    private static void wrongNumbers(Checks checks, SpreadParity x) {
        int[] badFiles = {-1, 8, Integer.MIN_VALUE, Integer.MAX_VALUE};
        int[] badWhats = {-1, -2, 8, 9, 10, Integer.MIN_VALUE, Integer.MAX_VALUE};
        for (int file : badFiles) {
            checks.due("file(" + file + ", 0)", x.file(file, 0), SpreadParity.REFUSED);
            checks.due("file(" + file + ", 1)", x.file(file, 1), SpreadParity.REFUSED);
            checks.due("file(" + file + ", 2)", x.file(file, 2), SpreadParity.REFUSED);
        }
        for (int what : badWhats) {
            checks.due("file(0, " + what + ")", x.file(0, what), SpreadParity.REFUSED);
            checks.due("file(7, " + what + ")", x.file(7, what), SpreadParity.REFUSED);
            checks.due("file(5, " + what + ")", x.file(5, what), SpreadParity.REFUSED);
        }
    }
}
