/** Promise 3: remove. */
public final class Promise03RemoveTest {
    private static final int REFUSED = SpreadParity.REFUSED;

    public static void main(String[] args) {
        Checks checks = new Checks("promise 3");
        fileNumbers(checks);
        filesThatAreNotThere(checks);
        noMore(checks);
        blocksAreFree(checks);
        checks.end();
    }

    private static void fileNumbers(Checks checks) {
        checks.sentence("The file (0 .. 7");
        SpreadParity x = new SpreadParity(1);
        for (int file = 0; file < 8; file++) {
            x.create(file, 2);
        }
        for (int file : Checks.outside(0, 7)) {
            checks.due("remove(" + file + ")", x.remove(file), REFUSED);
        }
        checks.due("count(0)", x.count(0), 5);
        for (int file = 0; file < 8; file++) {
            checks.due("remove(" + file + ")", x.remove(file), SpreadParity.DONE);
        }
        checks.due("count(0)", x.count(0), 21);
    }

    private static void filesThatAreNotThere(Checks checks) {
        checks.sentence("there)");
        SpreadParity x = States.mixed();
        for (int file : new int[] {1, 3, 4, 5, 6, 7}) {
            checks.due("remove(" + file + "), not there", x.remove(file), REFUSED);
        }
        checks.same("what is refused", x, States.mixed());
        SpreadParity y = new SpreadParity(1);
        y.create(3, 1);
        checks.due("remove(3)", y.remove(3), SpreadParity.DONE);
        checks.due("remove(3) again", y.remove(3), REFUSED);
        checks.due("create(0, 22)", y.create(0, 22), SpreadParity.FULL);
        checks.due("remove(0), which was FULL", y.remove(0), REFUSED);
    }

    private static void noMore(Checks checks) {
        checks.sentence("is there no more");
        SpreadParity x = new SpreadParity(1);
        x.create(0, 4);
        x.create(7, 5);
        x.create(2, 6);
        checks.due("remove(7)", x.remove(7), SpreadParity.DONE);
        checks.due("file(7, 0)", x.file(7, 0), 0);
        checks.due("file(7, 1)", x.file(7, 1), 0);
        checks.due("file(7, 2)", x.file(7, 2), REFUSED);
        checks.due("read(7, 0)", x.read(7, 0), SpreadParity.NONE);
        checks.due("write(7, 0, 1, 9)", x.write(7, 0, 1, 9), REFUSED);
        checks.due("file(0, 0), another one", x.file(0, 0), 4);
        checks.due("file(2, 2), another one", x.file(2, 2), 9);
        checks.due("create(7, 1)", x.create(7, 1), 1);
    }

    private static void blocksAreFree(Checks checks) {
        checks.sentence("its blocks are free. DONE.");
        SpreadParity x = States.withoutOddFiles(3, 3, 3, 3, 3, 3, 3);
        x.create(7, 8);
        checks.due("count(0)", x.count(0), 1);
        checks.due("remove(7), three extents", x.remove(7), SpreadParity.DONE);
        checks.due("count(0)", x.count(0), 9);
        checks.due("count(6)", x.count(6), 3);
        checks.due("remove(2), between two runs", x.remove(2), SpreadParity.DONE);
        checks.due("count(6)", x.count(6), 2);
        checks.due("count(1)", x.count(1), 9);
        checks.due("remove(0), the first block", x.remove(0), SpreadParity.DONE);
        checks.due("remove(6), the last block", x.remove(6), SpreadParity.DONE);
        checks.due("remove(4)", x.remove(4), SpreadParity.DONE);
        checks.due("count(1)", x.count(1), 21);
        checks.due("create(5, 21)", x.create(5, 21), 1);
        checks.due("remove(5), all blocks", x.remove(5), SpreadParity.DONE);
        checks.due("count(0)", x.count(0), 21);
    }
}
