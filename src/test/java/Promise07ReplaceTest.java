/** Promise 7: replace. */
public final class Promise07ReplaceTest {
    public static void main(String[] args) {
        Checks checks = new Checks("promise 7");
        SpreadParity x = new SpreadParity(3);
        int[] bad = {-1, 7, Integer.MIN_VALUE, Integer.MAX_VALUE};
        for (int disk : bad) {
            checks.due("replace(" + disk + ")", x.replace(disk), SpreadParity.REFUSED);
        }
        for (int disk = 0; disk < 7; disk++) {
            checks.due("replace(" + disk + "), present", x.replace(disk), SpreadParity.REFUSED);
        }
        checks.same("what is refused", x, new SpreadParity(3));
        for (int disk = 0; disk < 7; disk++) {
            SpreadParity y = new SpreadParity(3);
            y.fail(disk);
            checks.due("replace(" + disk + ")", y.replace(disk), SpreadParity.DONE);
            checks.due("disk(" + disk + ", 0)", y.disk(disk, 0), 1);
            checks.due("disk(" + disk + ", 1)", y.disk(disk, 1), 0);
            checks.due("count(2)", y.count(2), 12);
            checks.due("replace(" + disk + ") again", y.replace(disk), SpreadParity.REFUSED);
            checks.due("alter of a lost column", y.alter((disk + 5) % 7, 0, 1), SpreadParity.REFUSED);
        }
        checks.end();
    }
}
