/**
 * Seven disks with stripes of three blocks and a parity, spread evenly, with a spare cell for each
 * stripe, and files in runs of blocks.
 *
 * <p>The public methods test their numbers; the classes inside take numbers that are in range.
 */
public final class SpreadParity {
    public static final int DONE = 0;
    public static final int REFUSED = -1;
    public static final int FULL = -2;
    public static final int BROKEN = -3;
    public static final int CRASHED = -4;
    public static final long NONE = -1000000000000L;
    public static final long UNREADABLE = -3000000000000L;

    private static final int DISKS = 7;
    private static final int MOST_GROUPS = 3;
    private static final int COLUMNS = 4;
    private static final int PARITY = 3;
    private static final int BLOCKS_PER_STRIPE = 3;
    private static final int NO_COLUMN = 4;
    private static final int FILES = 8;
    private static final int MOST_EXTENTS = 3;
    private static final int MOST_LENGTH = 63;
    private static final int MOST_AT_ONCE = 21;
    private static final int LAST_CUT = 3;
    private static final int NO_BLOCK = -1;
    private static final int[] HOME_STEPS = {2, 4, 5, 6};

    private final Stripes stripes;
    private final FileTable files;

    public SpreadParity(int groups) {
        int total = DISKS * Math.max(1, Math.min(MOST_GROUPS, groups));
        stripes = new Stripes(total);
        files = new FileTable(total * BLOCKS_PER_STRIPE);
    }

    public int create(int file, int length) {
        if (!isFile(file) || length < 1 || length > MOST_LENGTH || files.isThere(file)) {
            return REFUSED;
        }
        return files.make(file, length) ? files.extentsOf(file) : FULL;
    }

    public int remove(int file) {
        if (!isFile(file) || !files.isThere(file)) {
            return REFUSED;
        }
        files.release(file);
        return DONE;
    }

    public int write(int file, int i, int value, int cut) {
        int block = blockAt(file, i);
        if (block == NO_BLOCK) {
            return REFUSED;
        }
        int stripe = block / BLOCKS_PER_STRIPE;
        int column = block % BLOCKS_PER_STRIPE;
        if (stripes.isBroken(stripe)) {
            return BROKEN;
        }
        stripes.mendAll(stripe);
        if (!keepsOldValue(cut, stripes.isLost(stripe, column))) {
            stripes.setBlock(stripe, column, value);
        }
        return isCrash(cut) ? CRASHED : DONE;
    }

    public long read(int file, int i) {
        int block = blockAt(file, i);
        if (block == NO_BLOCK) {
            return NONE;
        }
        int stripe = block / BLOCKS_PER_STRIPE;
        int column = block % BLOCKS_PER_STRIPE;
        // A column that is not BAD is read even where its stripe is BROKEN.
        if (stripes.isBad(stripe, column) && stripes.isBroken(stripe)) {
            return UNREADABLE;
        }
        stripes.mend(stripe, column);
        return stripes.dueWord(stripe, column);
    }

    public int fail(int disk) {
        if (!isDisk(disk) || !stripes.isPresent(disk)) {
            return REFUSED;
        }
        return stripes.takeOut(disk);
    }

    public int replace(int disk) {
        if (!isDisk(disk) || stripes.isPresent(disk)) {
            return REFUSED;
        }
        stripes.putIn(disk);
        return DONE;
    }

    public int alter(int stripe, int column, int mask) {
        if (!stripes.isStripe(stripe) || !isColumn(column)) {
            return REFUSED;
        }
        if (stripes.isLost(stripe, column) || mask == 0) {
            return REFUSED;
        }
        stripes.flip(stripe, column, mask);
        return DONE;
    }

    public int rebuild(int n) {
        return isAmount(n) ? stripes.workOut(n) : REFUSED;
    }

    public int moveBack(int n) {
        return isAmount(n) ? stripes.bringHome(n) : REFUSED;
    }

    public int scrub(int n) {
        return isAmount(n) ? stripes.visit(n) : REFUSED;
    }

    public int file(int file, int what) {
        if (!isFile(file) || what < 0 || what > 1 + 2 * MOST_EXTENTS) {
            return REFUSED;
        }
        if (what == 0) {
            return files.lengthOf(file);
        }
        if (what == 1) {
            return files.extentsOf(file);
        }
        int extent = what / 2 - 1;
        if (extent >= files.extentsOf(file)) {
            return REFUSED;
        }
        return what % 2 == 0 ? files.extentStart(file, extent) : files.extentSize(file, extent);
    }

    public int stripe(int stripe, int what) {
        if (!stripes.isStripe(stripe)) {
            return REFUSED;
        }
        if (isColumn(what)) {
            return stripes.condition(stripe, what);
        }
        switch (what) {
            case 4:
                return stripes.movedColumn(stripe);
            case 5:
                return stripes.isBroken(stripe) ? 1 : 0;
            default:
                return REFUSED;
        }
    }

    public int disk(int disk, int what) {
        if (!isDisk(disk)) {
            return REFUSED;
        }
        switch (what) {
            case 0:
                return stripes.isPresent(disk) ? 1 : 0;
            case 1:
                return stripes.cellsOn(disk);
            case 2:
                return stripes.movedCellsOn(disk);
            default:
                return REFUSED;
        }
    }

    public int count(int what) {
        switch (what) {
            case 0:
                return files.freeBlocks();
            case 1:
                return files.longestRunLength();
            case 2:
                return stripes.lostColumns();
            case 3:
                return stripes.wrongColumns();
            case 4:
                return stripes.brokenStripes();
            case 5:
                return stripes.nextVisited();
            case 6:
                return files.freeRuns();
            default:
                return REFUSED;
        }
    }

    private int blockAt(int file, int i) {
        if (!isFile(file) || i < 0 || i >= files.lengthOf(file)) {
            return NO_BLOCK;
        }
        return files.blockOf(file, i);
    }

    private static boolean isFile(int file) {
        return file >= 0 && file < FILES;
    }

    private static boolean isDisk(int disk) {
        return disk >= 0 && disk < DISKS;
    }

    private static boolean isColumn(int column) {
        return column >= 0 && column < COLUMNS;
    }

    private static boolean isAmount(int n) {
        return n >= 1 && n <= MOST_AT_ONCE;
    }

    private static boolean isCrash(int cut) {
        return cut >= 0 && cut <= LAST_CUT;
    }

    /** With two steps done, a LOST column has no cell that could hold the new value yet. */
    private static boolean keepsOldValue(int cut, boolean lost) {
        return cut == 0 || cut == 1 || (cut == 2 && lost);
    }

    /** The columns of the stripes and the disks that have their cells. */
    private static final class Stripes {
        private final int total;
        private final boolean[] present;
        // What each column should have is kept apart from its cell, so that a WRONG cell can be
        // told from it alone, and so that a LOST column keeps its word.
        private final int[] due;
        private final int[] cell;
        private final boolean[] lost;
        private final int[] moved;
        private int next;

        Stripes(int total) {
            this.total = total;
            present = new boolean[DISKS];
            due = new int[total * COLUMNS];
            cell = new int[total * COLUMNS];
            lost = new boolean[total * COLUMNS];
            moved = new int[total];
            for (int d = 0; d < DISKS; d++) {
                present[d] = true;
            }
            for (int s = 0; s < total; s++) {
                moved[s] = NO_COLUMN;
            }
        }

        boolean isStripe(int stripe) {
            return stripe >= 0 && stripe < total;
        }

        boolean isPresent(int disk) {
            return present[disk];
        }

        boolean isLost(int stripe, int column) {
            return lost[place(stripe, column)];
        }

        boolean isWrong(int stripe, int column) {
            int at = place(stripe, column);
            return !lost[at] && cell[at] != due[at];
        }

        boolean isBad(int stripe, int column) {
            return isLost(stripe, column) || isWrong(stripe, column);
        }

        boolean isBroken(int stripe) {
            int bad = 0;
            for (int c = 0; c < COLUMNS; c++) {
                if (isBad(stripe, c)) {
                    bad++;
                }
            }
            return bad >= 2;
        }

        /** 0 for a fine column, 1 for a WRONG one, 2 for a LOST one. */
        int condition(int stripe, int column) {
            if (isLost(stripe, column)) {
                return 2;
            }
            return isWrong(stripe, column) ? 1 : 0;
        }

        int movedColumn(int stripe) {
            return moved[stripe];
        }

        int dueWord(int stripe, int column) {
            return due[place(stripe, column)];
        }

        void flip(int stripe, int column, int mask) {
            cell[place(stripe, column)] ^= mask;
        }

        /** Answers whether there was a WRONG cell to mend. */
        boolean mend(int stripe, int column) {
            if (!isWrong(stripe, column)) {
                return false;
            }
            int at = place(stripe, column);
            cell[at] = due[at];
            return true;
        }

        int mendAll(int stripe) {
            int mended = 0;
            for (int c = 0; c < COLUMNS; c++) {
                if (mend(stripe, c)) {
                    mended++;
                }
            }
            return mended;
        }

        void setBlock(int stripe, int column, int value) {
            int change = dueWord(stripe, column) ^ value;
            changeWord(stripe, column, change);
            changeWord(stripe, PARITY, change);
        }

        int takeOut(int disk) {
            present[disk] = false;
            int losses = 0;
            for (int s = 0; s < total; s++) {
                for (int c = 0; c < COLUMNS; c++) {
                    if (isOn(s, c, disk)) {
                        lose(s, c);
                        losses++;
                    }
                }
            }
            return losses;
        }

        void putIn(int disk) {
            present[disk] = true;
        }

        int workOut(int most) {
            int worked = 0;
            for (int s = 0; s < total && worked < most; s++) {
                if (workOutIn(s)) {
                    worked++;
                }
            }
            return worked;
        }

        int bringHome(int most) {
            int brought = 0;
            for (int s = 0; s < total && brought < most; s++) {
                if (moved[s] != NO_COLUMN && present[home(s, moved[s])]) {
                    moved[s] = NO_COLUMN;
                    brought++;
                }
            }
            return brought;
        }

        int visit(int visits) {
            int mended = 0;
            for (int v = 0; v < visits; v++) {
                if (!isBroken(next)) {
                    mended += mendAll(next);
                }
                next = next + 1 < total ? next + 1 : 0;
            }
            return mended;
        }

        int nextVisited() {
            return next;
        }

        int cellsOn(int disk) {
            int cells = 0;
            for (int s = 0; s < total; s++) {
                for (int c = 0; c < COLUMNS; c++) {
                    if (isOn(s, c, disk)) {
                        cells++;
                    }
                }
            }
            return cells;
        }

        int movedCellsOn(int disk) {
            int cells = 0;
            for (int s = 0; s < total; s++) {
                if (moved[s] != NO_COLUMN && spare(s) == disk) {
                    cells++;
                }
            }
            return cells;
        }

        int lostColumns() {
            int columns = 0;
            for (int at = 0; at < lost.length; at++) {
                if (lost[at]) {
                    columns++;
                }
            }
            return columns;
        }

        int wrongColumns() {
            int columns = 0;
            for (int s = 0; s < total; s++) {
                for (int c = 0; c < COLUMNS; c++) {
                    if (isWrong(s, c)) {
                        columns++;
                    }
                }
            }
            return columns;
        }

        int brokenStripes() {
            int broken = 0;
            for (int s = 0; s < total; s++) {
                if (isBroken(s)) {
                    broken++;
                }
            }
            return broken;
        }

        private static int place(int stripe, int column) {
            return stripe * COLUMNS + column;
        }

        private static int home(int stripe, int column) {
            return (stripe % DISKS + HOME_STEPS[column]) % DISKS;
        }

        private static int spare(int stripe) {
            return stripe % DISKS;
        }

        private boolean isOn(int stripe, int column, int disk) {
            if (isLost(stripe, column)) {
                return false;
            }
            return disk == (moved[stripe] == column ? spare(stripe) : home(stripe, column));
        }

        private void lose(int stripe, int column) {
            lost[place(stripe, column)] = true;
            if (moved[stripe] == column) {
                moved[stripe] = NO_COLUMN;
            }
        }

        private void changeWord(int stripe, int column, int change) {
            int at = place(stripe, column);
            due[at] ^= change;
            if (!lost[at]) {
                cell[at] = due[at];
            }
        }

        private boolean workOutIn(int stripe) {
            int column = firstLost(stripe);
            if (column == NO_COLUMN || isBroken(stripe)) {
                return false;
            }
            if (!present[home(stripe, column)]) {
                if (!present[spare(stripe)] || moved[stripe] != NO_COLUMN) {
                    return false;
                }
                moved[stripe] = column;
            }
            int at = place(stripe, column);
            cell[at] = wordFromOthers(stripe, column);
            lost[at] = false;
            return true;
        }

        private int firstLost(int stripe) {
            for (int c = 0; c < COLUMNS; c++) {
                if (isLost(stripe, c)) {
                    return c;
                }
            }
            return NO_COLUMN;
        }

        private int wordFromOthers(int stripe, int column) {
            int word = 0;
            for (int c = 0; c < COLUMNS; c++) {
                if (c != column) {
                    word ^= cell[place(stripe, c)];
                }
            }
            return word;
        }
    }

    /** The files with their extents, and the blocks that are free. */
    private static final class FileTable {
        private final boolean[] taken;
        private final int[] length;
        private final int[] extents;
        private final int[] start;
        private final int[] size;

        FileTable(int blocks) {
            taken = new boolean[blocks];
            length = new int[FILES];
            extents = new int[FILES];
            start = new int[FILES * MOST_EXTENTS];
            size = new int[FILES * MOST_EXTENTS];
        }

        boolean isThere(int file) {
            return length[file] > 0;
        }

        int lengthOf(int file) {
            return length[file];
        }

        int extentsOf(int file) {
            return extents[file];
        }

        int extentStart(int file, int extent) {
            return start[file * MOST_EXTENTS + extent];
        }

        int extentSize(int file, int extent) {
            return size[file * MOST_EXTENTS + extent];
        }

        /** Answers whether the file could be made; if not, nothing has changed. */
        boolean make(int file, int wanted) {
            int fitting = firstRunOf(wanted);
            if (fitting != NO_BLOCK) {
                addExtent(file, fitting, wanted);
                return true;
            }
            for (int e = 0; e < MOST_EXTENTS && length[file] < wanted; e++) {
                addLongestRun(file, wanted - length[file]);
            }
            if (length[file] < wanted) {
                release(file);
                return false;
            }
            return true;
        }

        void release(int file) {
            for (int e = 0; e < extents[file]; e++) {
                mark(extentStart(file, e), extentSize(file, e), false);
            }
            extents[file] = 0;
            length[file] = 0;
        }

        int blockOf(int file, int i) {
            int before = 0;
            for (int e = 0; e < extents[file]; e++) {
                int inside = i - before;
                if (inside < extentSize(file, e)) {
                    return extentStart(file, e) + inside;
                }
                before += extentSize(file, e);
            }
            return NO_BLOCK;
        }

        int freeBlocks() {
            int free = 0;
            for (int b = 0; b < taken.length; b++) {
                if (!taken[b]) {
                    free++;
                }
            }
            return free;
        }

        int freeRuns() {
            int runs = 0;
            for (int b = 0; b < taken.length; b++) {
                if (startsRun(b)) {
                    runs++;
                }
            }
            return runs;
        }

        int longestRunLength() {
            int run = longestRun();
            return run == NO_BLOCK ? 0 : runFrom(run);
        }

        private int longestRun() {
            int best = NO_BLOCK;
            int bestLength = 0;
            for (int b = 0; b < taken.length; b++) {
                if (startsRun(b) && runFrom(b) > bestLength) {
                    best = b;
                    bestLength = runFrom(b);
                }
            }
            return best;
        }

        private int firstRunOf(int wanted) {
            for (int b = 0; b < taken.length; b++) {
                if (startsRun(b) && runFrom(b) >= wanted) {
                    return b;
                }
            }
            return NO_BLOCK;
        }

        private boolean startsRun(int block) {
            return !taken[block] && (block == 0 || taken[block - 1]);
        }

        /** How many free blocks follow one another from this one on. */
        private int runFrom(int block) {
            int end = block;
            while (end < taken.length && !taken[end]) {
                end++;
            }
            return end - block;
        }

        private void addLongestRun(int file, int needed) {
            int run = longestRun();
            if (run != NO_BLOCK) {
                addExtent(file, run, Math.min(runFrom(run), needed));
            }
        }

        private void addExtent(int file, int first, int blocks) {
            int at = file * MOST_EXTENTS + extents[file];
            start[at] = first;
            size[at] = blocks;
            extents[file]++;
            length[file] += blocks;
            mark(first, blocks, true);
        }

        private void mark(int first, int blocks, boolean isTaken) {
            for (int b = first; b < first + blocks; b++) {
                taken[b] = isTaken;
            }
        }
    }
}
