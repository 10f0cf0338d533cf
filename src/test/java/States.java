/** Objects that several tests begin with, and where the document puts the cells of a stripe. */
final class States {
    /** A table and not a formula, so that the tests do not share the program's reckoning. */
    private static final int[][] HOMES = {
        {2, 4, 5, 6}, {3, 5, 6, 0}, {4, 6, 0, 1}, {5, 0, 1, 2}, {6, 1, 2, 3}, {0, 2, 3, 4}, {1, 3, 4, 5},
    };

    private States() {
    }

    static int home(int stripe, int column) {
        return HOMES[stripe % 7][column];
    }

    static int spare(int stripe) {
        return stripe % 7;
    }

    /** The word that filled writes to cell i of file 0. */
    static int word(int i) {
        return (i + 1) * 0x01234567;
    }

    /** File 0 has all 21 blocks of 7 stripes, each with a word of its own. */
    static SpreadParity filled() {
        SpreadParity x = new SpreadParity(1);
        x.create(0, 21);
        for (int i = 0; i < 21; i++) {
            x.write(0, i, word(i), 9);
        }
        return x;
    }

    /** Column 0 of stripe 0 and three more have moved from disk 2, which is absent. */
    static SpreadParity moved() {
        SpreadParity x = filled();
        x.fail(2);
        x.rebuild(21);
        return x;
    }

    /** Free runs of 4 at 2, 3 at 8, 6 at 13 and 1 at 20; files 0, 2, 4 and 6 are there, 1, 3, 5 and 7 are not. */
    static SpreadParity gaps() {
        return withoutOddFiles(2, 4, 2, 3, 2, 6, 1);
    }

    /** Files 0, 1, 2 .. of these lengths one behind the other in 21 blocks, then without 1, 3 and 5. */
    static SpreadParity withoutOddFiles(int... lengths) {
        SpreadParity x = new SpreadParity(1);
        for (int file = 0; file < lengths.length; file++) {
            x.create(file, lengths[file]);
        }
        x.remove(1);
        x.remove(3);
        x.remove(5);
        return x;
    }

    /** Files with a gap, fine, WRONG, LOST and moved columns, BROKEN stripes, an absent disk, scrub in the midst. */
    static SpreadParity mixed() {
        SpreadParity x = new SpreadParity(2);
        x.create(0, 20);
        x.create(1, 5);
        x.create(2, 17);
        for (int i = 0; i < 20; i++) {
            x.write(0, i, 1000 + i, 9);
        }
        for (int i = 0; i < 17; i++) {
            x.write(2, i, 2000 + i, 9);
        }
        x.remove(1);
        x.scrub(3);
        x.fail(2);
        x.rebuild(3);
        x.fail(5);
        x.replace(5);
        x.alter(4, 3, 6);
        x.alter(8, 2, 6);
        x.alter(9, 0, 6);
        x.alter(9, 1, 6);
        return x;
    }
}
