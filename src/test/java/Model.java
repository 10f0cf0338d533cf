import java.util.ArrayList;
import java.util.List;

/**
 * A second model of the document for tests: it keeps what stands on each disk, cell by cell, and
 * works all else out from that, where the program keeps marks for each column.
 */
final class Model {
    private static final int[] STEPS = {2, 4, 5, 6};

    private record Cell(int column, int word) {
    }

    private record Extent(int first, int length) {
    }

    private final int stripes;
    /** For each disk, absent (null) or its cells by stripe, null where there is none. */
    private final Cell[][] disks = new Cell[7][];
    private final int[] blocks;
    private final List<List<Extent>> files = new ArrayList<>();
    private int scrubbed;

    Model(int groups) {
        stripes = 7 * (groups < 1 ? 1 : groups > 3 ? 3 : groups);
        blocks = new int[3 * stripes];
        for (int d = 0; d < 7; d++) {
            disks[d] = new Cell[stripes];
        }
        for (int s = 0; s < stripes; s++) {
            for (int c = 0; c < 4; c++) {
                disks[home(s, c)][s] = new Cell(c, 0);
            }
        }
        for (int f = 0; f < 8; f++) {
            files.add(null);
        }
    }

    int create(int file, int length) {
        if (file < 0 || file > 7 || length < 1 || length > 63 || files.get(file) != null) {
            return -1;
        }
        List<Extent> runs = runs();
        List<Extent> got = new ArrayList<>();
        for (Extent run : runs) {
            if (run.length >= length) {
                got.add(new Extent(run.first, length));
                files.set(file, got);
                return 1;
            }
        }
        int needed = length;
        while (needed > 0) {
            Extent longest = null;
            for (Extent run : runs) {
                if (longest == null || run.length > longest.length) {
                    longest = run;
                }
            }
            if (longest == null) {
                return -2;
            }
            runs.remove(longest);
            got.add(new Extent(longest.first, Math.min(longest.length, needed)));
            needed -= Math.min(longest.length, needed);
        }
        if (got.size() > 3) {
            return -2;
        }
        files.set(file, got);
        return got.size();
    }

    int remove(int file) {
        if (file < 0 || file > 7 || files.get(file) == null) {
            return -1;
        }
        files.set(file, null);
        return 0;
    }

    int write(int file, int i, int value, int cut) {
        int block = block(file, i);
        if (block < 0) {
            return -1;
        }
        int s = block / 3;
        int c = block % 3;
        if (broken(s)) {
            return -3;
        }
        mend(s);
        boolean crash = cut >= 0 && cut <= 3;
        int steps = crash ? cut : 4;
        // After a crash the block's cell tells its value if it has one; else the parity's tells it.
        int tellsAtStep = state(s, c) == 2 ? 3 : 2;
        if (steps >= tellsAtStep) {
            blocks[block] = value;
            mend(s);
        }
        return crash ? -4 : 0;
    }

    long read(int file, int i) {
        int block = block(file, i);
        if (block < 0) {
            return -1000000000000L;
        }
        int s = block / 3;
        int c = block % 3;
        if (state(s, c) == 0) {
            return disks[diskOf(s, c)][s].word;
        }
        if (broken(s)) {
            return -3000000000000L;
        }
        if (state(s, c) == 1) {
            mend(s);
        }
        return blocks[block];
    }

    int fail(int disk) {
        if (disk < 0 || disk > 6 || disks[disk] == null) {
            return -1;
        }
        int cells = disk(disk, 1);
        disks[disk] = null;
        return cells;
    }

    int replace(int disk) {
        if (disk < 0 || disk > 6 || disks[disk] != null) {
            return -1;
        }
        disks[disk] = new Cell[stripes];
        return 0;
    }

    int alter(int stripe, int column, int mask) {
        if (stripe < 0 || stripe >= stripes || column < 0 || column > 3 || mask == 0) {
            return -1;
        }
        int d = diskOf(stripe, column);
        if (d < 0) {
            return -1;
        }
        disks[d][stripe] = new Cell(column, disks[d][stripe].word ^ mask);
        return 0;
    }

    int rebuild(int n) {
        if (n < 1 || n > 21) {
            return -1;
        }
        int done = 0;
        for (int s = 0; s < stripes && done < n; s++) {
            for (int c = 0; c < 4; c++) {
                if (state(s, c) != 2 || broken(s)) {
                    continue;
                }
                int others = 0;
                for (int other = 0; other < 4; other++) {
                    others ^= other == c ? 0 : disks[diskOf(s, other)][s].word;
                }
                int target = disks[home(s, c)] != null ? home(s, c) : s % 7;
                if (disks[target] != null && disks[target][s] == null) {
                    disks[target][s] = new Cell(c, others);
                    done++;
                }
            }
        }
        return done;
    }

    int moveBack(int n) {
        if (n < 1 || n > 21) {
            return -1;
        }
        int done = 0;
        for (int s = 0; s < stripes && done < n; s++) {
            if (disks[s % 7] == null || disks[s % 7][s] == null) {
                continue;
            }
            Cell cell = disks[s % 7][s];
            if (disks[home(s, cell.column)] != null) {
                disks[home(s, cell.column)][s] = cell;
                disks[s % 7][s] = null;
                done++;
            }
        }
        return done;
    }

    int scrub(int n) {
        if (n < 1 || n > 21) {
            return -1;
        }
        int before = count(3);
        for (int v = 0; v < n; v++) {
            int s = scrubbed++ % stripes;
            if (!broken(s)) {
                mend(s);
            }
        }
        return before - count(3);
    }

    int file(int file, int what) {
        if (file < 0 || file > 7 || what < 0 || what > 7) {
            return -1;
        }
        List<Extent> extents = files.get(file) == null ? List.of() : files.get(file);
        if (what == 0) {
            int length = 0;
            for (Extent extent : extents) {
                length += extent.length;
            }
            return length;
        }
        if (what == 1) {
            return extents.size();
        }
        if (extents.size() < what / 2) {
            return -1;
        }
        Extent extent = extents.get(what / 2 - 1);
        return what % 2 == 0 ? extent.first : extent.length;
    }

    int stripe(int stripe, int what) {
        if (stripe < 0 || stripe >= stripes || what < 0 || what > 5) {
            return -1;
        }
        if (what < 4) {
            return state(stripe, what);
        }
        if (what == 5) {
            return broken(stripe) ? 1 : 0;
        }
        Cell[] spare = disks[stripe % 7];
        return spare == null || spare[stripe] == null ? 4 : spare[stripe].column;
    }

    int disk(int disk, int what) {
        if (disk < 0 || disk > 6 || what < 0 || what > 2) {
            return -1;
        }
        if (what == 0) {
            return disks[disk] == null ? 0 : 1;
        }
        int cells = 0;
        for (int s = 0; s < stripes && disks[disk] != null; s++) {
            if (disks[disk][s] != null && (what == 1 || s % 7 == disk)) {
                cells++;
            }
        }
        return cells;
    }

    int count(int what) {
        int number = 0;
        switch (what) {
            case 0:
                for (Extent run : runs()) {
                    number += run.length;
                }
                return number;
            case 1:
                for (Extent run : runs()) {
                    number = Math.max(number, run.length);
                }
                return number;
            case 2:
            case 3:
                for (int at = 0; at < 4 * stripes; at++) {
                    number += state(at / 4, at % 4) == (what == 2 ? 2 : 1) ? 1 : 0;
                }
                return number;
            case 4:
                for (int s = 0; s < stripes; s++) {
                    number += broken(s) ? 1 : 0;
                }
                return number;
            case 5:
                return scrubbed % stripes;
            case 6:
                return runs().size();
            default:
                return -1;
        }
    }

    private static int home(int s, int c) {
        return (s % 7 + STEPS[c]) % 7;
    }

    private int diskOf(int s, int c) {
        for (int d = 0; d < 7; d++) {
            if (disks[d] != null && disks[d][s] != null && disks[d][s].column == c) {
                return d;
            }
        }
        return -1;
    }

    private int wanted(int s, int c) {
        return c < 3 ? blocks[3 * s + c] : blocks[3 * s] ^ blocks[3 * s + 1] ^ blocks[3 * s + 2];
    }

    private int state(int s, int c) {
        int d = diskOf(s, c);
        return d < 0 ? 2 : disks[d][s].word == wanted(s, c) ? 0 : 1;
    }

    private boolean broken(int s) {
        int bad = 0;
        for (int c = 0; c < 4; c++) {
            bad += state(s, c) == 0 ? 0 : 1;
        }
        return bad > 1;
    }

    private void mend(int s) {
        for (int c = 0; c < 4; c++) {
            int d = diskOf(s, c);
            if (d >= 0) {
                disks[d][s] = new Cell(c, wanted(s, c));
            }
        }
    }

    private int block(int file, int i) {
        if (file < 0 || file > 7 || files.get(file) == null || i < 0) {
            return -1;
        }
        List<Integer> all = new ArrayList<>();
        for (Extent extent : files.get(file)) {
            for (int b = 0; b < extent.length; b++) {
                all.add(extent.first + b);
            }
        }
        return i < all.size() ? all.get(i) : -1;
    }

    private List<Extent> runs() {
        boolean[] taken = new boolean[blocks.length + 1];
        taken[blocks.length] = true;
        for (List<Extent> extents : files) {
            for (Extent extent : extents == null ? List.<Extent>of() : extents) {
                for (int b = 0; b < extent.length; b++) {
                    taken[extent.first + b] = true;
                }
            }
        }
        List<Extent> runs = new ArrayList<>();
        int first = 0;
        for (int b = 0; b < taken.length; b++) {
            if (taken[b]) {
                if (b > first) {
                    runs.add(new Extent(first, b - first));
                }
                first = b + 1;
            }
        }
        return runs;
    }
}
