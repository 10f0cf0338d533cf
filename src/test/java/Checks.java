/** Counts the answers that are not the ones that are due, and ends a test with exit code 1 if there was one. */
final class Checks {
    private final String name;
    private int checked;
    private int wrong;

    Checks(String name) {
        this.name = name;
    }

    void due(String call, long got, long want) {
        checked++;
        if (got != want) {
            wrong++;
            System.out.println(name + ": " + call + " answered " + got + ", due is " + want);
        }
    }

    void end() {
        System.out.println(name + ": " + checked + " answers, " + wrong + " not as due");
        if (wrong != 0) {
            System.exit(1);
        }
    }

    /** Every answer of the looking methods, so that 'nothing changes' can be told. */
    static String picture(SpreadParity x) {
        StringBuilder text = new StringBuilder();
        for (int what = 0; what <= 6; what++) {
            text.append(x.count(what)).append(' ');
        }
        for (int file = 0; file < 8; file++) {
            for (int what = 0; what <= 7; what++) {
                text.append(x.file(file, what)).append(' ');
            }
        }
        for (int stripe = 0; stripe < 21; stripe++) {
            for (int what = 0; what <= 5; what++) {
                text.append(x.stripe(stripe, what)).append(' ');
            }
        }
        for (int disk = 0; disk < 7; disk++) {
            for (int what = 0; what <= 2; what++) {
                text.append(x.disk(disk, what)).append(' ');
            }
        }
        return text.toString();
    }

    /** Whether two objects, one of which was given a call more, look alike. */
    void same(String call, SpreadParity one, SpreadParity other) {
        due(call + " leaves all as it was (1 is yes)", picture(one).equals(picture(other)) ? 1 : 0, 1);
    }
}
