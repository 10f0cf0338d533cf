/** The section 'Terms': what holds for all promises. */
public final class TermsTest {
    private static final int REFUSED = SpreadParity.REFUSED;
    private static final int DONE = SpreadParity.DONE;

    public static void main(String[] args) {
        Checks checks = new Checks("terms");
        numberOfStripes(checks);
        numberOfColumns(checks);
        blocksOfColumns(checks);
        parity(checks);
        homes(checks);
        spares(checks);
        atMostOneMoved(checks);
        atFirst(checks);
        disksAtFirst(checks);
        cellsAreOnPresentDisks(checks);
        wrongColumns(checks);
        toldFromTheCell(checks);
        brokenStripes(checks);
        mending(checks);
        filesAtFirst(checks);
        oneToThreeExtents(checks);
        cellsOfExtents(checks);
        freeBlocks(checks);
        freeRuns(checks);
        wordsStay(checks);
        numbersFirst(checks);
        refusedCallsChangeNothing(checks);
        fullChangesNothing(checks);
        unreadable(checks);
        checks.end();
    }

    private static void numberOfStripes(Checks checks) {
        checks.sentence("There are S = 7 GROUPS stripes 0 .. S - 1");
        for (int groups = 1; groups <= 3; groups++) {
            SpreadParity x = new SpreadParity(groups);
            int stripes = 7 * groups;
            for (int s = 0; s < stripes; s++) {
                checks.due("stripe(" + s + ", 0)", x.stripe(s, 0), 0);
                checks.due("alter(" + s + ", 3, 1)", x.alter(s, 3, 1), DONE);
            }
            for (int s : Checks.outside(0, stripes - 1)) {
                checks.due("stripe(" + s + ", 0)", x.stripe(s, 0), REFUSED);
                checks.due("alter(" + s + ", 3, 1)", x.alter(s, 3, 1), REFUSED);
            }
            checks.due("count(3)", x.count(3), stripes);
        }
    }

    private static void numberOfColumns(Checks checks) {
        checks.sentence("stripe s has columns 0 .. 3, each one word (an int)");
        SpreadParity x = new SpreadParity(1);
        for (int s = 0; s < 7; s++) {
            for (int c = 0; c < 4; c++) {
                checks.due("alter(" + s + ", " + c + ", -1)", x.alter(s, c, -1), DONE);
            }
            for (int c : Checks.outside(0, 3)) {
                checks.due("alter(" + s + ", " + c + ", -1)", x.alter(s, c, -1), REFUSED);
            }
        }
        checks.due("count(3)", x.count(3), 28);
    }

    private static void blocksOfColumns(Checks checks) {
        checks.sentence("Columns 0, 1, 2 are the blocks 3 s, 3 s + 1, 3 s + 2");
        SpreadParity x = new SpreadParity(3);
        x.create(0, 63);
        for (int b = 0; b < 63; b++) {
            x.alter(b / 3, b % 3, 1);
            checks.due("stripe(" + b / 3 + ", " + b % 3 + ")", x.stripe(b / 3, b % 3), 1);
            checks.due("read(0, " + b + ")", x.read(0, b), 0);
            checks.due("stripe(" + b / 3 + ", " + b % 3 + ") when read", x.stripe(b / 3, b % 3), 0);
        }
    }

    /** A column that is worked out from the other three is fine only if column 3 fits. */
    private static void parity(Checks checks) {
        checks.sentence("column 3 is the exclusive-or of the three");
        int[][] words = {{Integer.MIN_VALUE, -1, Integer.MAX_VALUE}, {5, Integer.MIN_VALUE, 3}, {-1, -1, -1}};
        for (int[] three : words) {
            for (int at = 0; at < 28; at++) {
                parityOf(checks, three, at / 4, at % 4);
            }
        }
    }

    private static void parityOf(Checks checks, int[] words, int s, int c) {
        SpreadParity x = new SpreadParity(1);
        x.create(0, 21);
        for (int i = 0; i < 3; i++) {
            x.write(0, 3 * s + i, words[i], 9);
        }
        x.fail(States.home(s, c));
        x.rebuild(21);
        checks.due("stripe(" + s + ", " + c + "), worked out", x.stripe(s, c), 0);
        checks.due("count(3)", x.count(3), 0);
        for (int i = 0; i < 3; i++) {
            checks.due("read(0, " + (3 * s + i) + ")", x.read(0, 3 * s + i), words[i]);
        }
    }

    private static void homes(Checks checks) {
        checks.sentence("With r = s % 7 the HOME of column c is disk (r + h) % 7 with h = 2, 4, 5, 6 for c = 0, 1, 2, 3");
        for (int disk = 0; disk < 7; disk++) {
            SpreadParity x = new SpreadParity(3);
            x.fail(disk);
            for (int s = 0; s < 21; s++) {
                for (int c = 0; c < 4; c++) {
                    checks.due("fail(" + disk + "), stripe(" + s + ", " + c + ")", x.stripe(s, c),
                            States.home(s, c) == disk ? 2 : 0);
                }
            }
        }
    }

    private static void spares(Checks checks) {
        checks.sentence("the SPARE of the stripe is disk r");
        for (int s = 0; s < 21; s++) {
            for (int c = 0; c < 4; c++) {
                SpreadParity x = new SpreadParity(3);
                x.fail(States.home(s, c));
                x.rebuild(21);
                checks.due("stripe(" + s + ", 4)", x.stripe(s, 4), c);
                checks.due("disk(" + s % 7 + ", 2)", x.disk(s % 7, 2), 3);
                x.fail(s % 7);
                checks.due("stripe(" + s + ", " + c + "), spare absent", x.stripe(s, c), 2);
            }
        }
    }

    private static void atMostOneMoved(Checks checks) {
        checks.sentence("at most one column of a stripe is moved");
        for (int s = 0; s < 7; s++) {
            for (int first = 0; first < 4; first++) {
                for (int second = 0; second < 4; second++) {
                    if (first != second) {
                        twoLostInTurn(checks, s, first, second);
                    }
                }
            }
        }
    }

    private static void twoLostInTurn(Checks checks, int s, int first, int second) {
        SpreadParity x = new SpreadParity(1);
        x.fail(States.home(s, first));
        x.rebuild(21);
        x.fail(States.home(s, second));
        x.rebuild(21);
        String when = "columns " + first + " and " + second + ": ";
        checks.due(when + "stripe(" + s + ", 4)", x.stripe(s, 4), first);
        checks.due(when + "stripe(" + s + ", " + first + ")", x.stripe(s, first), 0);
        checks.due(when + "stripe(" + s + ", " + second + ")", x.stripe(s, second), 2);
        checks.due(when + "disk(" + s + ", 2)", x.disk(s, 2), 1);
    }

    private static void atFirst(Checks checks) {
        checks.sentence("All are at home and 0 at first.");
        for (int groups = 1; groups <= 3; groups++) {
            SpreadParity x = new SpreadParity(groups);
            for (int s = 0; s < 7 * groups; s++) {
                checks.due("stripe(" + s + ", 4)", x.stripe(s, 4), 4);
                for (int c = 0; c < 4; c++) {
                    checks.due("stripe(" + s + ", " + c + ")", x.stripe(s, c), 0);
                }
            }
            for (int d = 0; d < 7; d++) {
                checks.due("disk(" + d + ", 1)", x.disk(d, 1), 4 * groups);
                checks.due("disk(" + d + ", 2)", x.disk(d, 2), 0);
            }
            x.create(0, 21 * groups);
            for (int i = 0; i < 21 * groups; i++) {
                checks.due("read(0, " + i + ")", x.read(0, i), 0);
            }
        }
    }

    private static void disksAtFirst(Checks checks) {
        checks.sentence("DISKS 0 .. 6 are present (all at first) or absent.");
        SpreadParity x = new SpreadParity(1);
        for (int d = 0; d < 7; d++) {
            checks.due("disk(" + d + ", 0)", x.disk(d, 0), 1);
        }
        for (int d = 0; d < 7; d++) {
            x.fail(d);
            checks.due("disk(" + d + ", 0), failed", x.disk(d, 0), 0);
        }
        for (int d : Checks.outside(0, 6)) {
            checks.due("disk(" + d + ", 0)", x.disk(d, 0), REFUSED);
        }
    }

    private static void cellsAreOnPresentDisks(Checks checks) {
        checks.sentence("A column that is not LOST has a cell with a word on a disk: on its HOME if it is at home,"
                + " on the SPARE if it is moved; that disk is present.");
        for (int a = 0; a < 7; a++) {
            for (int b = 0; b < 7; b++) {
                SpreadParity x = new SpreadParity(1);
                x.fail(a);
                x.rebuild(21);
                x.fail(b);
                x.rebuild(21);
                checks.due("disk(" + a + ", 1), absent", x.disk(a, 1), 0);
                checks.due("disk(" + b + ", 1), absent", x.disk(b, 1), 0);
                int cells = 0;
                for (int d = 0; d < 7; d++) {
                    cells += x.disk(d, 1);
                }
                checks.due("cells after " + a + " and " + b, cells, 28 - x.count(2));
            }
        }
    }

    private static void wrongColumns(Checks checks) {
        checks.sentence("A column is WRONG if it is not LOST and its cell has another word than it should");
        SpreadParity x = new SpreadParity(1);
        for (int bit = 0; bit < 32; bit++) {
            x.alter(0, 0, 1 << bit);
            checks.due("stripe(0, 0), bit " + bit, x.stripe(0, 0), 1);
            x.alter(0, 0, 1 << bit);
            checks.due("stripe(0, 0), as before", x.stripe(0, 0), 0);
        }
        x.alter(0, 0, 1);
        x.fail(2);
        checks.due("stripe(0, 0), LOST", x.stripe(0, 0), 2);
        checks.due("count(3), it is LOST", x.count(3), 0);
    }

    /** Cells that fit one another are WRONG all the same. */
    private static void toldFromTheCell(Checks checks) {
        checks.sentence("that can be told from the cell alone");
        SpreadParity x = States.filled();
        x.alter(0, 0, 5);
        x.alter(0, 3, 5);
        int[] two = {1, 0, 0, 1};
        for (int c = 0; c < 4; c++) {
            checks.due("stripe(0, " + c + "), two of them", x.stripe(0, c), two[c]);
        }
        x.alter(0, 1, 5);
        x.alter(0, 2, 5);
        for (int c = 0; c < 4; c++) {
            checks.due("stripe(0, " + c + "), all of them", x.stripe(0, c), 1);
        }
        checks.due("count(3)", x.count(3), 4);
    }

    /** All 81 ways in which the columns of a stripe can be fine, WRONG or LOST. */
    private static void brokenStripes(Checks checks) {
        checks.sentence("It is BAD if it is LOST or WRONG. A stripe is BROKEN if two or more of its columns are BAD.");
        for (int way = 0; way < 81; way++) {
            int[] condition = {way % 3, way / 3 % 3, way / 9 % 3, way / 27};
            SpreadParity x = new SpreadParity(1);
            int bad = 0;
            for (int c = 0; c < 4; c++) {
                if (condition[c] == 1) {
                    x.alter(3, c, 8);
                }
                if (condition[c] == 2) {
                    x.fail(States.home(3, c));
                }
                bad += condition[c] == 0 ? 0 : 1;
            }
            for (int c = 0; c < 4; c++) {
                checks.due("way " + way + ": stripe(3, " + c + ")", x.stripe(3, c), condition[c]);
            }
            checks.due("way " + way + ": stripe(3, 5)", x.stripe(3, 5), bad >= 2 ? 1 : 0);
        }
    }

    /** The mended cell counts when another column is worked out from it. */
    private static void mending(Checks checks) {
        checks.sentence("To MEND a WRONG column of a stripe that is not BROKEN:"
                + " its cell gets the word that it should have.");
        for (int by = 0; by < 3; by++) {
            for (int c = 0; c < 3; c++) {
                SpreadParity x = States.filled();
                x.alter(0, c, 0x7070);
                switch (by) {
                    case 0 -> x.read(0, c);
                    case 1 -> x.write(0, c, States.word(c), 9);
                    default -> x.scrub(1);
                }
                checks.due("stripe(0, " + c + ")", x.stripe(0, c), 0);
                x.fail(States.home(0, 3));
                x.rebuild(21);
                checks.due("stripe(0, 3), worked out", x.stripe(0, 3), 0);
                checks.due("read(0, " + c + ")", x.read(0, c), States.word(c));
            }
        }
    }

    private static void filesAtFirst(Checks checks) {
        checks.sentence("FILES 0 .. 7 are there or not (at first).");
        SpreadParity x = new SpreadParity(1);
        for (int f = 0; f < 8; f++) {
            checks.due("file(" + f + ", 0)", x.file(f, 0), 0);
            checks.due("remove(" + f + ")", x.remove(f), REFUSED);
            checks.due("read(" + f + ", 0)", x.read(f, 0), SpreadParity.NONE);
            checks.due("write(" + f + ", 0, 1, 9)", x.write(f, 0, 1, 9), REFUSED);
        }
        for (int f = 0; f < 8; f++) {
            checks.due("create(" + f + ", 1)", x.create(f, 1), 1);
        }
        for (int f = 0; f < 8; f++) {
            checks.due("file(" + f + ", 0), all are there", x.file(f, 0), 1);
        }
    }

    private static void oneToThreeExtents(Checks checks) {
        checks.sentence("One that is there has a length and 1 to 3 EXTENTS in order");
        int[] lengths = {6, 10, 13};
        for (int e = 1; e <= 3; e++) {
            SpreadParity x = States.gaps();
            x.create(7, lengths[e - 1]);
            checks.due("file(7, 0)", x.file(7, 0), lengths[e - 1]);
            checks.due("file(7, 1)", x.file(7, 1), e);
            int sum = 0;
            for (int n = 0; n < e; n++) {
                sum += x.file(7, 3 + 2 * n);
            }
            checks.due("lengths of all extents", sum, lengths[e - 1]);
        }
    }

    private static void cellsOfExtents(Checks checks) {
        checks.sentence("Cell i of the file is the i-th block of its extents, one after another, counted from 0.");
        SpreadParity x = States.gaps();
        x.create(7, 12);
        int[] blocks = {13, 14, 15, 16, 17, 18, 2, 3, 4, 5, 8, 9};
        for (int i = 0; i < blocks.length; i++) {
            int b = blocks[i];
            x.alter(b / 3, b % 3, 1);
            checks.due("read(7, " + i + ")", x.read(7, i), 0);
            checks.due("stripe(" + b / 3 + ", " + b % 3 + ") when read", x.stripe(b / 3, b % 3), 0);
        }
        checks.due("read(7, 12)", x.read(7, 12), SpreadParity.NONE);
    }

    private static void freeBlocks(Checks checks) {
        checks.sentence("A block in no extent is free.");
        SpreadParity x = States.gaps();
        checks.due("count(0)", x.count(0), 14);
        x.create(7, 13);
        checks.due("count(0), three extents more", x.count(0), 1);
        x.create(1, 1);
        checks.due("count(0), all are taken", x.count(0), 0);
        x.remove(7);
        checks.due("count(0), three extents less", x.count(0), 13);
        int[] rest = {0, 1, 2, 4, 6};
        for (int f : rest) {
            x.remove(f);
        }
        checks.due("count(0), no file is there", x.count(0), 21);
    }

    /** Seven files of three blocks; the first block and the last are no neighbours. */
    private static void freeRuns(Checks checks) {
        checks.sentence("A free RUN is a longest run of neighbouring free blocks.");
        SpreadParity x = new SpreadParity(1);
        for (int f = 0; f < 7; f++) {
            x.create(f, 3);
        }
        int[][] steps = {{0, 1, 3}, {6, 2, 3}, {3, 3, 3}, {4, 3, 6}, {1, 3, 6}, {5, 2, 12}, {2, 1, 21}};
        checks.due("count(6), none", x.count(6), 0);
        checks.due("count(1), none", x.count(1), 0);
        for (int[] step : steps) {
            x.remove(step[0]);
            checks.due("count(6) without " + step[0], x.count(6), step[1]);
            checks.due("count(1) without " + step[0], x.count(1), step[2]);
        }
    }

    private static void wordsStay(Checks checks) {
        checks.sentence("Making and removing files changes no word.");
        SpreadParity x = States.filled();
        x.alter(1, 2, 9);
        x.fail(2);
        x.remove(0);
        for (int f = 0; f < 7; f++) {
            x.create(f, 3);
        }
        checks.due("stripe(1, 2)", x.stripe(1, 2), 1);
        checks.due("count(2)", x.count(2), 4);
        checks.due("count(3)", x.count(3), 1);
        for (int i = 0; i < 21; i++) {
            checks.due("read(" + i / 3 + ", " + i % 3 + ")", x.read(i / 3, i % 3), States.word(i));
        }
    }

    /** Where a number is out of range, neither FULL nor BROKEN nor UNREADABLE is the answer. */
    private static void numbersFirst(Checks checks) {
        checks.sentence("Every call tests its numbers first, then what its own comment says, in that order.");
        SpreadParity x = new SpreadParity(1);
        x.create(0, 20);
        checks.due("create(1, 63)", x.create(1, 63), SpreadParity.FULL);
        checks.due("create(1, 64)", x.create(1, 64), REFUSED);
        checks.due("create(8, 63)", x.create(8, 63), REFUSED);
        checks.due("create(-1, 63)", x.create(-1, 63), REFUSED);
        checks.due("create(0, 63)", x.create(0, 63), REFUSED);
        for (int s = 0; s < 7; s++) {
            x.alter(s, 0, 1);
            x.alter(s, 1, 1);
        }
        checks.due("count(4)", x.count(4), 7);
        int[][] bad = {{0, 20}, {0, -1}, {1, 0}, {8, 0}, {-1, 0}};
        for (int[] at : bad) {
            checks.due("write(" + at[0] + ", " + at[1] + ", 5, 0)", x.write(at[0], at[1], 5, 0), REFUSED);
            checks.due("write(" + at[0] + ", " + at[1] + ", 5, 9)", x.write(at[0], at[1], 5, 9), REFUSED);
            checks.due("read(" + at[0] + ", " + at[1] + ")", x.read(at[0], at[1]), SpreadParity.NONE);
        }
    }

    private static void refusedCallsChangeNothing(Checks checks) {
        checks.sentence("Numbers out of range and all else that is said to be refused answer REFUSED"
                + " (NONE where the answer is a long) and change nothing");
        SpreadParity x = States.mixed();
        for (int bad : new int[] {-1, 21, 63, 64}) {
            checks.due("create", x.create(bad, 1), REFUSED);
            checks.due("remove", x.remove(bad), REFUSED);
            checks.due("write", x.write(bad, 0, 7, 9), REFUSED);
            checks.due("write", x.write(0, bad, 7, 9), REFUSED);
            checks.due("read", x.read(bad, 0), SpreadParity.NONE);
            checks.due("read", x.read(0, bad), SpreadParity.NONE);
            checks.due("fail", x.fail(bad), REFUSED);
            checks.due("replace", x.replace(bad), REFUSED);
            checks.due("alter", x.alter(bad, 0, 7), REFUSED);
            checks.due("alter", x.alter(0, bad, 7), REFUSED);
            checks.due("file", x.file(bad, 0), REFUSED);
            checks.due("file", x.file(0, bad), REFUSED);
            checks.due("stripe", x.stripe(bad, 0), REFUSED);
            checks.due("stripe", x.stripe(0, bad), REFUSED);
            checks.due("disk", x.disk(bad, 0), REFUSED);
            checks.due("disk", x.disk(0, bad), REFUSED);
            checks.due("count", x.count(bad), REFUSED);
        }
        for (int bad : new int[] {-1, 0, 22}) {
            checks.due("rebuild", x.rebuild(bad), REFUSED);
            checks.due("moveBack", x.moveBack(bad), REFUSED);
            checks.due("scrub", x.scrub(bad), REFUSED);
        }
        checks.due("create(2, 3), there", x.create(2, 3), REFUSED);
        checks.due("remove(1), not there", x.remove(1), REFUSED);
        checks.due("write(1, 0, 7, 9), not there", x.write(1, 0, 7, 9), REFUSED);
        checks.due("read(1, 0), not there", x.read(1, 0), SpreadParity.NONE);
        checks.due("fail(2), absent", x.fail(2), REFUSED);
        checks.due("replace(0), present", x.replace(0), REFUSED);
        checks.due("replace(5), present and new", x.replace(5), REFUSED);
        checks.due("alter(5, 1, 7), LOST", x.alter(5, 1, 7), REFUSED);
        checks.due("alter(0, 0, 0), no mask", x.alter(0, 0, 0), REFUSED);
        checks.same("what is refused", x, States.mixed());
    }

    private static void fullChangesNothing(Checks checks) {
        checks.sentence("so does FULL.");
        SpreadParity x = States.mixed();
        checks.due("create(1, 6), not enough blocks", x.create(1, 6), SpreadParity.FULL);
        checks.due("create(7, 63), not enough blocks", x.create(7, 63), SpreadParity.FULL);
        checks.same("FULL", x, States.mixed());
        SpreadParity y = States.gaps();
        checks.due("create(7, 14), four extents", y.create(7, 14), SpreadParity.FULL);
        checks.same("FULL", y, States.gaps());
    }

    private static void unreadable(Checks checks) {
        checks.sentence("As BROKEN, where the answer is a long.");
        SpreadParity x = States.filled();
        x.alter(2, 0, 1);
        x.alter(2, 1, 1);
        checks.due("write(0, 6, 1, 9)", x.write(0, 6, 1, 9), -3);
        checks.due("read(0, 6)", x.read(0, 6), -3000000000000L);
    }
}
