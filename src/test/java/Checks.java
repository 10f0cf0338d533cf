/** Counts the answers that are not the ones that are due, and ends a test with exit code 1 if there was one. */
final class Checks {
    private final String name;
    private String sentence = "";
    private int sentences;
    private int sinceSentence;
    private int checked;
    private int wrong;

    Checks(String name) {
        this.name = name;
    }

    /** The document's words that the answers from here on are due by. */
    void sentence(String words) {
        endSentence();
        sentence = " '" + words + "'";
        sentences++;
        sinceSentence = 0;
    }

    void due(String call, long got, long want) {
        checked++;
        sinceSentence++;
        if (got != want) {
            wrong++;
            System.out.println(name + sentence + ": " + call + " answered " + got + ", due is " + want);
        }
    }

    /** Whether two objects, one of which was given calls that change nothing, look alike. Reading mends: look last. */
    void same(String call, SpreadParity one, SpreadParity other) {
        due(call + " leaves all as it was (1 is yes)", picture(one).equals(picture(other)) ? 1 : 0, 1);
    }

    void end() {
        endSentence();
        String parts = sentences == 0 ? "" : sentences + " sentences, ";
        System.out.println(name + ": " + parts + checked + " answers, " + wrong + " not as due");
        if (wrong != 0) {
            System.exit(1);
        }
    }

    /** Numbers beside low .. high, next to it and far away. */
    static int[] outside(int low, int high) {
        return new int[] {low - 1, high + 1, low - 2, high + 2, low - 256, high + 256, Integer.MIN_VALUE, Integer.MAX_VALUE};
    }

    private void endSentence() {
        if (sentences > 0 && sinceSentence == 0) {
            wrong++;
            System.out.println(name + sentence + ": no answer was looked at");
        }
    }

    /** Every answer of the looking methods, and then of every cell that a file has: some 280 of the 512 calls. */
    private static String picture(SpreadParity x) {
        StringBuilder text = new StringBuilder();
        for (int what = 0; what <= 6; what++) {
            text.append(x.count(what)).append(' ');
        }
        for (int file = 0; file < 8; file++) {
            for (int what = 0; what <= 7; what++) {
                text.append(x.file(file, what)).append(' ');
            }
        }
        for (int stripe = 0; stripe < 21; stripe++) {
            for (int what = 0; what <= 5; what++) {
                text.append(x.stripe(stripe, what)).append(' ');
            }
        }
        for (int disk = 0; disk < 7; disk++) {
            for (int what = 0; what <= 2; what++) {
                text.append(x.disk(disk, what)).append(' ');
            }
        }
        for (int file = 0; file < 8; file++) {
            int length = x.file(file, 0);
            for (int i = 0; i < length; i++) {
                text.append(x.read(file, i)).append(' ');
            }
        }
        return text.toString();
    }
}
