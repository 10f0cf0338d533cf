/** Promise 4: write. Column 0, 1, 2, 3 of stripe 0 are at home on disk 2, 4, 5, 6; its spare is disk 0. */
public final class Promise04WriteTest {
    private static final int REFUSED = SpreadParity.REFUSED;
    private static final int CRASHED = SpreadParity.CRASHED;
    private static final int DONE = SpreadParity.DONE;
    private static final int NEW = -7;

    public static void main(String[] args) {
        Checks checks = new Checks("promise 4");
        everyCell(checks);
        filesThatAreNotThere(checks);
        cellNumbers(checks);
        brokenStripes(checks);
        wrongColumnsAreMended(checks);
        itsColumnLost(checks);
        parityLost(checks);
        cutsThatCrash(checks);
        cutZeroOrOne(checks);
        cutTwoOnALostColumn(checks);
        cutTwoOrThreeElse(checks);
        parityFits(checks);
        otherBlocks(checks);
        cutsThatDoNotCrash(checks);
        noNoteIsLeft(checks);
        movedColumns(checks);
        severalExtents(checks);
        checks.end();
    }

    /** The blocks of stripe 0 and the next one, where cell 1 has this word and all others are as before. */
    private static void blocks(Checks checks, String when, SpreadParity x, int word) {
        for (int i = 0; i < 4; i++) {
            checks.due(when + ": read(0, " + i + ")", x.read(0, i), i == 1 ? word : States.word(i));
        }
    }

    /** All columns of stripe 0 fit one another if each that is lost is worked out to what it should be. */
    private static void fits(Checks checks, String when, SpreadParity x, int lost) {
        x.fail(States.home(0, lost));
        x.replace(States.home(0, lost));
        x.rebuild(21);
        checks.due(when + ": stripe(0, " + lost + "), worked out", x.stripe(0, lost), 0);
        checks.due(when + ": count(3)", x.count(3), 0);
    }

    private static void everyCell(Checks checks) {
        checks.sentence("Writes cell i");
        SpreadParity x = new SpreadParity(3);
        x.create(3, 63);
        for (int i = 0; i < 63; i++) {
            checks.due("write(3, " + i + ")", x.write(3, i, i * 0x9E3779B9, 4 + i), DONE);
        }
        for (int i = 0; i < 63; i++) {
            checks.due("read(3, " + i + ")", x.read(3, i), i * 0x9E3779B9);
        }
        x.fail(0);
        for (int i = 0; i < 63; i++) {
            checks.due("disk 0 absent: read(3, " + i + ")", x.read(3, i), i * 0x9E3779B9);
        }
    }

    private static void filesThatAreNotThere(Checks checks) {
        checks.sentence("of a file that is there");
        SpreadParity x = States.mixed();
        for (int cut = -1; cut <= 4; cut++) {
            for (int file : Checks.outside(0, 7)) {
                checks.due("write(" + file + ", 0, 5, " + cut + ")", x.write(file, 0, 5, cut), REFUSED);
            }
            checks.due("write(1, 0, 5, " + cut + "), removed", x.write(1, 0, 5, cut), REFUSED);
            checks.due("write(7, 0, 5, " + cut + "), never made", x.write(7, 0, 5, cut), REFUSED);
        }
        checks.same("what is refused", x, States.mixed());
    }

    private static void cellNumbers(Checks checks) {
        checks.sentence("(i 0 .. length - 1)");
        SpreadParity x = States.withoutOddFiles(3, 6, 12);
        x.create(3, 4);
        for (int cut = -1; cut <= 4; cut++) {
            for (int i : Checks.outside(0, 3)) {
                checks.due("write(3, " + i + ", 5, " + cut + ")", x.write(3, i, 5, cut), REFUSED);
            }
        }
        checks.due("write(3, 0, 6, 9)", x.write(3, 0, 6, 9), DONE);
        checks.due("write(3, 3, 7, 9)", x.write(3, 3, 7, 9), DONE);
        // Behind the file there are two free blocks, and then those of another file.
        x.create(1, 2);
        int[][] words = {{0, 0, 0}, {0, 0}, {0, 0, 0}, {6, 0, 0, 7}};
        for (int f = 0; f < words.length; f++) {
            for (int i = 0; i < words[f].length; i++) {
                checks.due("read(" + f + ", " + i + ")", x.read(f, i), words[f][i]);
            }
        }
    }

    /** Two WRONG columns, two LOST ones, one of each; the block's own column is fine, WRONG or LOST. */
    private static void brokenStripes(Checks checks) {
        checks.sentence("The block's stripe is BROKEN: BROKEN, nothing changes.");
        for (int cut = -1; cut <= 4; cut++) {
            SpreadParity x = broken();
            for (int i = 0; i < 9; i++) {
                checks.due("write(0, " + i + ", -7, " + cut + ")", x.write(0, i, NEW, cut), SpreadParity.BROKEN);
            }
            checks.same("a write to a broken stripe", x, broken());
            SpreadParity y = broken();
            y.write(0, 1, NEW, cut);
            y.alter(0, 3, 1);
            checks.due("stripe(0, 5), altered back", y.stripe(0, 5), 0);
            for (int i = 0; i < 3; i++) {
                checks.due("read(0, " + i + "), altered back", y.read(0, i), States.word(i));
            }
        }
    }

    /** Stripe 0 has two WRONG columns, stripe 1 two LOST ones, stripe 2 one of each; all other stripes are not BROKEN. */
    private static SpreadParity broken() {
        SpreadParity x = States.filled();
        x.fail(3);
        x.fail(0);
        x.replace(3);
        x.alter(0, 0, 1);
        x.alter(0, 3, 1);
        x.alter(2, 0, 1);
        return x;
    }

    /** Mending stands before the steps, so it is done whatever the cut. */
    private static void wrongColumnsAreMended(Checks checks) {
        checks.sentence("WRONG columns of the stripe are MENDED first; then, step 1: the write is noted");
        for (int cut = -1; cut <= 4; cut++) {
            for (int column = 0; column < 4; column++) {
                SpreadParity x = States.filled();
                x.alter(0, column, 0x5050);
                x.alter(1, column, 0x5050);
                String when = "column " + column + " wrong, cut " + cut;
                checks.due(when, x.write(0, 1, NEW, cut), cut >= 0 && cut <= 3 ? CRASHED : DONE);
                checks.due(when + ": stripe(0, " + column + ")", x.stripe(0, column), 0);
                checks.due(when + ": stripe(1, " + column + ")", x.stripe(1, column), 1);
                checks.due(when + ": count(3)", x.count(3), 1);
                x.scrub(7);
                fits(checks, when, x, (column + 1) % 4);
                blocks(checks, when, x, cut == 0 || cut == 1 ? States.word(1) : NEW);
            }
        }
    }

    private static void itsColumnLost(Checks checks) {
        checks.sentence("step 2: the block's column gets the value, in its cell if it is not LOST");
        SpreadParity x = States.filled();
        x.fail(4);
        checks.due("write(0, 1, -7, 9)", x.write(0, 1, NEW, 9), DONE);
        checks.due("stripe(0, 1), it stays LOST", x.stripe(0, 1), 2);
        checks.due("disk(4, 1)", x.disk(4, 1), 0);
        blocks(checks, "its column lost", x, NEW);
        checks.due("stripe(0, 1), it stays LOST", x.stripe(0, 1), 2);
        x.rebuild(21);
        checks.due("stripe(0, 1), worked out", x.stripe(0, 1), 0);
        blocks(checks, "worked out", x, NEW);
        // If it is not LOST its cell has the value: the words of the others and of column 3 tell it.
        SpreadParity y = States.filled();
        y.write(0, 1, NEW, 9);
        fits(checks, "not lost", y, 3);
    }

    private static void parityLost(Checks checks) {
        checks.sentence("step 3: column 3 gets its new word, in its cell if it is not LOST");
        for (int cut = -1; cut <= 4; cut++) {
            SpreadParity x = States.filled();
            x.fail(6);
            boolean crash = cut >= 0 && cut <= 3;
            String when = "column 3 lost, cut " + cut;
            checks.due(when, x.write(0, 1, NEW, cut), crash ? CRASHED : DONE);
            checks.due(when + ": stripe(0, 3), it stays LOST", x.stripe(0, 3), 2);
            x.rebuild(21);
            checks.due(when + ": stripe(0, 3), worked out", x.stripe(0, 3), 0);
            blocks(checks, when, x, cut == 0 || cut == 1 ? States.word(1) : NEW);
        }
        // If it is not LOST its cell has the new word: a block that is LOST is worked out by it.
        SpreadParity y = States.filled();
        y.write(0, 1, NEW, 9);
        fits(checks, "not lost", y, 1);
        blocks(checks, "not lost", y, NEW);
    }

    private static void cutsThatCrash(Checks checks) {
        checks.sentence("cut: if it is 0 .. 3, only the first cut steps are done and there is a crash");
        for (int lost = -1; lost < 4; lost++) {
            for (int cut = 0; cut <= 3; cut++) {
                SpreadParity x = States.filled();
                if (lost >= 0) {
                    x.fail(States.home(0, lost));
                }
                checks.due("column " + lost + " lost, cut " + cut, x.write(0, 1, NEW, cut), CRASHED);
                checks.due("count(2)", x.count(2), lost < 0 ? 0 : 4);
                checks.due("count(3)", x.count(3), 0);
            }
        }
    }

    private static void cutZeroOrOne(Checks checks) {
        checks.sentence("the block has its old value if cut is 0 or 1");
        for (int lost = -1; lost < 4; lost++) {
            for (int cut = 0; cut <= 1; cut++) {
                SpreadParity x = States.filled();
                if (lost >= 0) {
                    x.fail(States.home(0, lost));
                }
                x.write(0, 1, NEW, cut);
                blocks(checks, "column " + lost + " lost, cut " + cut, x, States.word(1));
            }
        }
    }

    private static void cutTwoOnALostColumn(Checks checks) {
        checks.sentence("or if cut is 2 and its column is LOST");
        SpreadParity x = States.filled();
        x.fail(4);
        checks.due("write(0, 1, -7, 2)", x.write(0, 1, NEW, 2), CRASHED);
        blocks(checks, "cut 2, its column lost", x, States.word(1));
        x.rebuild(21);
        blocks(checks, "cut 2, its column worked out", x, States.word(1));
        checks.due("count(3)", x.count(3), 0);
        // LOST on a new disk is LOST all the same.
        SpreadParity y = States.filled();
        y.fail(4);
        y.replace(4);
        checks.due("write(0, 1, -7, 2)", y.write(0, 1, NEW, 2), CRASHED);
        blocks(checks, "cut 2, its column lost on a new disk", y, States.word(1));
    }

    private static void cutTwoOrThreeElse(Checks checks) {
        checks.sentence("else it has the new one");
        for (int lost = -1; lost < 4; lost++) {
            for (int cut = lost == 1 ? 3 : 2; cut <= 3; cut++) {
                SpreadParity x = States.filled();
                if (lost >= 0) {
                    x.fail(States.home(0, lost));
                }
                x.write(0, 1, NEW, cut);
                blocks(checks, "column " + lost + " lost, cut " + cut, x, NEW);
            }
        }
        // A moved column is not LOST.
        SpreadParity y = States.filled();
        y.fail(4);
        y.rebuild(21);
        checks.due("write(0, 1, -7, 2)", y.write(0, 1, NEW, 2), CRASHED);
        blocks(checks, "cut 2, its column moved", y, NEW);
    }

    private static void parityFits(Checks checks) {
        checks.sentence("column 3 is made to fit");
        for (int cut = 0; cut <= 3; cut++) {
            for (int lost = 0; lost < 4; lost++) {
                SpreadParity x = States.filled();
                x.write(0, 1, NEW, cut);
                checks.due("cut " + cut + ": stripe(0, 3)", x.stripe(0, 3), 0);
                fits(checks, "cut " + cut, x, lost);
                blocks(checks, "cut " + cut, x, cut < 2 ? States.word(1) : NEW);
            }
            SpreadParity y = States.filled();
            y.fail(4);
            y.write(0, 1, NEW, cut);
            checks.due("its column lost, cut " + cut + ": stripe(0, 3)", y.stripe(0, 3), 0);
            y.rebuild(21);
            checks.due("its column lost, cut " + cut + ": count(3)", y.count(3), 0);
            blocks(checks, "its column lost, cut " + cut, y, cut < 3 ? States.word(1) : NEW);
        }
    }

    private static void otherBlocks(Checks checks) {
        checks.sentence("and all other blocks are as before: CRASHED.");
        for (int cut = 0; cut <= 3; cut++) {
            for (int i = 0; i < 21; i++) {
                SpreadParity x = States.filled();
                checks.due("write(0, " + i + ", -7, " + cut + ")", x.write(0, i, NEW, cut), CRASHED);
                for (int other = 0; other < 21; other++) {
                    if (other != i) {
                        checks.due("read(0, " + other + ")", x.read(0, other), States.word(other));
                    }
                }
            }
            // Another block of the stripe that is LOST is as before, too.
            SpreadParity y = States.filled();
            y.fail(2);
            checks.due("another lost, cut " + cut, y.write(0, 1, NEW, cut), CRASHED);
            checks.due("stripe(0, 0)", y.stripe(0, 0), 2);
            y.rebuild(21);
            checks.due("count(3)", y.count(3), 0);
            blocks(checks, "another lost, cut " + cut, y, cut < 2 ? States.word(1) : NEW);
        }
    }

    private static void cutsThatDoNotCrash(Checks checks) {
        checks.sentence("Else all steps are done: DONE.");
        for (int cut : Checks.outside(0, 3)) {
            for (int lost = -1; lost < 4; lost++) {
                SpreadParity x = States.filled();
                if (lost >= 0) {
                    x.fail(States.home(0, lost));
                }
                checks.due("column " + lost + " lost, cut " + cut, x.write(0, 1, NEW, cut), DONE);
                blocks(checks, "column " + lost + " lost, cut " + cut, x, NEW);
                x.rebuild(21);
                checks.due("count(3)", x.count(3), 0);
            }
        }
    }

    /** Neither a write that is done nor one that crashed comes again with a later call. */
    private static void noNoteIsLeft(Checks checks) {
        checks.sentence("step 4: the note is gone");
        for (int cut = 0; cut <= 4; cut++) {
            SpreadParity x = States.filled();
            x.write(0, 1, NEW, cut);
            laterCalls(checks, "cut " + cut, x, cut < 2 ? States.word(1) : NEW);
            SpreadParity y = States.filled();
            y.write(0, 1, NEW, 9);
            y.write(0, 1, NEW - 1, cut);
            laterCalls(checks, "done, then cut " + cut, y, cut < 2 ? NEW : NEW - 1);
        }
    }

    private static void laterCalls(Checks checks, String when, SpreadParity x, int word) {
        for (int later = 0; later <= 4; later++) {
            x.write(0, 0, States.word(0), later);
            blocks(checks, when + ", a write beside it", x, word);
            x.write(0, 4, States.word(4), later);
            blocks(checks, when + ", a write elsewhere", x, word);
        }
        x.scrub(7);
        x.fail(4);
        x.rebuild(21);
        x.replace(4);
        x.moveBack(21);
        blocks(checks, when + ", its column lost and worked out", x, word);
        checks.due(when + ": count(3)", x.count(3), 0);
    }

    private static void movedColumns(Checks checks) {
        checks.sentence("in its cell if it is not LOST");
        SpreadParity x = States.filled();
        x.fail(4);
        x.rebuild(21);
        checks.due("stripe(0, 4)", x.stripe(0, 4), 1);
        checks.due("write to a moved column", x.write(0, 1, NEW, 9), DONE);
        checks.due("stripe(0, 4), it stays moved", x.stripe(0, 4), 1);
        checks.due("write beside a moved column", x.write(0, 0, States.word(0), 9), DONE);
        fits(checks, "one moved", x, 2);
        x.fail(0);
        blocks(checks, "the moved one lost", x, NEW);
        // Column 3 is the moved one.
        SpreadParity y = States.filled();
        y.fail(6);
        y.rebuild(21);
        y.write(0, 1, NEW, 9);
        fits(checks, "column 3 moved", y, 1);
        blocks(checks, "column 3 moved", y, NEW);
    }

    private static void severalExtents(Checks checks) {
        checks.sentence("Writes cell i of a file that is there");
        SpreadParity x = States.withoutOddFiles(3, 3, 3, 3, 3, 3, 3);
        x.create(7, 8);
        for (int i = 0; i < 8; i++) {
            checks.due("write(7, " + i + ")", x.write(7, i, 40 + i, 9), DONE);
        }
        checks.due("write(7, 8)", x.write(7, 8, 48, 9), REFUSED);
        x.remove(7);
        for (int e = 0; e < 3; e++) {
            int file = 2 * e + 1;
            checks.due("create(" + file + ", 3)", x.create(file, 3), 1);
            for (int i = 0; i < 3; i++) {
                checks.due("read(" + file + ", " + i + ")", x.read(file, i), e == 2 && i == 2 ? 0 : 40 + 3 * e + i);
            }
        }
        for (int f = 0; f < 7; f += 2) {
            for (int i = 0; i < 3; i++) {
                checks.due("read(" + f + ", " + i + ")", x.read(f, i), 0);
            }
        }
    }
}
