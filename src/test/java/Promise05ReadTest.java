/** Promise 5: read. */
public final class Promise05ReadTest {
    private static final long NONE = SpreadParity.NONE;
    private static final long UNREADABLE = SpreadParity.UNREADABLE;

    public static void main(String[] args) {
        Checks checks = new Checks("promise 5");
        everyWord(checks);
        filesThatAreNotThere(checks);
        cellNumbers(checks);
        fineColumns(checks);
        fineColumnsOfBrokenStripes(checks);
        brokenStripes(checks);
        lostColumns(checks);
        wrongColumns(checks);
        onlyTheColumnReadIsMended(checks);
        checks.end();
    }

    private static void everyWord(Checks checks) {
        checks.sentence("its word");
        SpreadParity x = new SpreadParity(1);
        x.create(0, 21);
        int[] words = {Integer.MIN_VALUE, -1, 0, 1, Integer.MAX_VALUE, -3, -4};
        for (int i = 0; i < words.length; i++) {
            x.write(0, i, words[i], 9);
            checks.due("read(0, " + i + ")", x.read(0, i), words[i]);
        }
        x.fail(4);
        for (int i = 0; i < words.length; i++) {
            checks.due("read(0, " + i + "), disk 4 absent", x.read(0, i), words[i]);
        }
    }

    private static void filesThatAreNotThere(Checks checks) {
        checks.sentence("of a file that is there");
        SpreadParity x = States.mixed();
        for (int file : Checks.outside(0, 7)) {
            checks.due("read(" + file + ", 0)", x.read(file, 0), NONE);
        }
        checks.due("read(1, 0), removed", x.read(1, 0), NONE);
        checks.due("read(7, 0), never made", x.read(7, 0), NONE);
        checks.due("create(7, 63), FULL", x.create(7, 63), SpreadParity.FULL);
        checks.due("read(7, 0), FULL", x.read(7, 0), NONE);
        checks.same("what is refused", x, States.mixed());
    }

    private static void cellNumbers(Checks checks) {
        checks.sentence("Cell i of a file that is there.");
        SpreadParity x = States.withoutOddFiles(3, 6, 12);
        x.create(3, 4);
        x.write(3, 0, 6, 9);
        x.write(3, 3, 7, 9);
        for (int i : Checks.outside(0, 3)) {
            checks.due("read(3, " + i + ")", x.read(3, i), NONE);
        }
        checks.due("read(3, 0)", x.read(3, 0), 6);
        checks.due("read(3, 3)", x.read(3, 3), 7);
        SpreadParity y = new SpreadParity(3);
        y.create(0, 63);
        checks.due("read(0, 62)", y.read(0, 62), 0);
        checks.due("read(0, 63)", y.read(0, 63), NONE);
    }

    private static void fineColumns(Checks checks) {
        checks.sentence("The block's column is not BAD: its word.");
        SpreadParity x = States.filled();
        for (int i = 0; i < 21; i++) {
            checks.due("read(0, " + i + ")", x.read(0, i), States.word(i));
        }
        // One that is moved is not BAD.
        SpreadParity y = States.moved();
        for (int i = 0; i < 21; i++) {
            checks.due("read(0, " + i + ")", y.read(0, i), States.word(i));
        }
    }

    private static void fineColumnsOfBrokenStripes(Checks checks) {
        checks.sentence("The block's column is not BAD: its word. Its stripe is BROKEN");
        for (int fine = 0; fine < 3; fine++) {
            SpreadParity x = States.filled();
            x.alter(0, (fine + 1) % 4, 3);
            x.fail(States.home(0, (fine + 2) % 4));
            checks.due("stripe(0, 5)", x.stripe(0, 5), 1);
            checks.due("read(0, " + fine + ")", x.read(0, fine), States.word(fine));
            checks.due("stripe(0, 5)", x.stripe(0, 5), 1);
        }
    }

    private static void brokenStripes(Checks checks) {
        checks.sentence("Its stripe is BROKEN: UNREADABLE.");
        SpreadParity x = States.filled();
        x.alter(0, 0, 77);
        x.alter(0, 3, 77);
        checks.due("read(0, 0), two WRONG", x.read(0, 0), UNREADABLE);
        checks.due("stripe(0, 0), not MENDED", x.stripe(0, 0), 1);
        checks.due("stripe(0, 3), not MENDED", x.stripe(0, 3), 1);
        x.alter(0, 3, 77);
        checks.due("read(0, 0), one WRONG", x.read(0, 0), States.word(0));
        x.alter(0, 1, 3);
        x.fail(2);
        checks.due("read(0, 0), LOST beside WRONG", x.read(0, 0), UNREADABLE);
        checks.due("read(0, 1), WRONG beside LOST", x.read(0, 1), UNREADABLE);
        x.fail(4);
        x.fail(5);
        x.fail(6);
        for (int i = 0; i < 3; i++) {
            checks.due("read(0, " + i + "), all LOST", x.read(0, i), UNREADABLE);
        }
    }

    private static void lostColumns(Checks checks) {
        checks.sentence("Else the word it should have");
        for (int disk = 0; disk < 7; disk++) {
            SpreadParity x = States.filled();
            x.fail(disk);
            for (int i = 0; i < 21; i++) {
                checks.due("disk " + disk + " absent: read(0, " + i + ")", x.read(0, i), States.word(i));
            }
            checks.due("disk " + disk + " absent: count(2), they stay LOST", x.count(2), 4);
            x.replace(disk);
            for (int i = 0; i < 21; i++) {
                checks.due("disk " + disk + " new: read(0, " + i + ")", x.read(0, i), States.word(i));
            }
            checks.due("disk " + disk + " new: count(2), they stay LOST", x.count(2), 4);
        }
    }

    private static void wrongColumns(Checks checks) {
        checks.sentence("if it is WRONG it is MENDED");
        for (int c = 0; c < 3; c++) {
            SpreadParity x = States.filled();
            x.alter(0, c, 77);
            checks.due("count(3)", x.count(3), 1);
            checks.due("read(0, " + c + ")", x.read(0, c), States.word(c));
            checks.due("stripe(0, " + c + ")", x.stripe(0, c), 0);
            checks.due("count(3)", x.count(3), 0);
            checks.due("alter(0, " + c + ", 77), no more by this", x.alter(0, c, 77), SpreadParity.DONE);
            checks.due("stripe(0, " + c + ")", x.stripe(0, c), 1);
        }
    }

    private static void onlyTheColumnReadIsMended(Checks checks) {
        checks.sentence("it is MENDED");
        SpreadParity x = States.filled();
        x.alter(0, 1, 77);
        x.alter(1, 0, 77);
        checks.due("read(0, 0)", x.read(0, 0), States.word(0));
        checks.due("read(0, 2)", x.read(0, 2), States.word(2));
        checks.due("stripe(0, 1), beside those read", x.stripe(0, 1), 1);
        checks.due("read(0, 1)", x.read(0, 1), States.word(1));
        checks.due("stripe(0, 1)", x.stripe(0, 1), 0);
        checks.due("stripe(1, 0), another stripe", x.stripe(1, 0), 1);
        x.alter(0, 3, 5);
        checks.due("read(0, 0)", x.read(0, 0), States.word(0));
        checks.due("stripe(0, 3), beside that read", x.stripe(0, 3), 1);
        // The column read is LOST: a WRONG one beside it makes the stripe BROKEN; alone it is read.
        SpreadParity y = States.filled();
        y.fail(2);
        checks.due("read(0, 0), LOST", y.read(0, 0), States.word(0));
        checks.due("stripe(0, 0), not MENDED", y.stripe(0, 0), 2);
    }
}
