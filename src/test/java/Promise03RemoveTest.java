/** Promise 3: remove. */
public final class Promise03RemoveTest {
    public static void main(String[] args) {
        Checks checks = new Checks("promise 3");
        SpreadParity x = new SpreadParity(1);
        checks.due("remove(0), not there", x.remove(0), SpreadParity.REFUSED);
        int[] bad = {-1, 8, Integer.MIN_VALUE, Integer.MAX_VALUE};
        for (int file : bad) {
            checks.due("remove(" + file + ")", x.remove(file), SpreadParity.REFUSED);
        }
        checks.same("what is refused", x, new SpreadParity(1));
        x.create(0, 4);
        x.create(7, 5);
        x.create(2, 6);
        checks.due("remove(7)", x.remove(7), SpreadParity.DONE);
        checks.due("file(7, 0)", x.file(7, 0), 0);
        checks.due("file(7, 1)", x.file(7, 1), 0);
        checks.due("file(7, 2)", x.file(7, 2), SpreadParity.REFUSED);
        checks.due("file(0, 0)", x.file(0, 0), 4);
        checks.due("count(0)", x.count(0), 11);
        checks.due("count(6)", x.count(6), 2);
        checks.due("read(7, 0)", x.read(7, 0), SpreadParity.NONE);
        checks.due("write(7, 0, 1, 9)", x.write(7, 0, 1, 9), SpreadParity.REFUSED);
        checks.due("remove(7) again", x.remove(7), SpreadParity.REFUSED);
        severalExtents(checks);
        noWordChanges(checks);
        checks.end();
    }

    private static void severalExtents(Checks checks) {
        SpreadParity x = new SpreadParity(1);
        for (int f = 0; f < 7; f++) {
            x.create(f, 3);
        }
        x.remove(0);
        x.remove(2);
        x.remove(4);
        checks.due("create(7, 8)", x.create(7, 8), 3);
        checks.due("count(0)", x.count(0), 1);
        checks.due("remove(7)", x.remove(7), SpreadParity.DONE);
        checks.due("count(0)", x.count(0), 9);
        checks.due("count(6)", x.count(6), 3);
        checks.due("remove(1)", x.remove(1), SpreadParity.DONE);
        checks.due("count(6)", x.count(6), 2);
        checks.due("count(1)", x.count(1), 9);
    }

    private static void noWordChanges(Checks checks) {
        SpreadParity x = new SpreadParity(1);
        x.create(0, 3);
        x.write(0, 0, 8, 9);
        x.alter(0, 0, 3);
        checks.due("remove(0)", x.remove(0), SpreadParity.DONE);
        checks.due("stripe(0, 0)", x.stripe(0, 0), 1);
        x.create(1, 1);
        checks.due("stripe(0, 0)", x.stripe(0, 0), 1);
        checks.due("read(1, 0)", x.read(1, 0), 8);
    }
}
