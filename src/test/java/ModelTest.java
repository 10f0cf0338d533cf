import java.util.Random;

/** Long runs of calls, the same in each run of this test, on the program and on the model. */
public final class ModelTest {
    private static final int RUNS = 3000;
    private static final int CALLS = 512;
    /** How often each call comes, create to count, in a run of each kind. */
    private static final int[][] SHARES = {
        {4, 3, 12, 12, 3, 3, 6, 4, 3, 4, 3, 8, 5, 6},
        {10, 8, 6, 6, 1, 1, 1, 1, 1, 1, 10, 1, 1, 6},
        {2, 1, 10, 10, 6, 7, 2, 8, 8, 1, 1, 8, 6, 6},
        {2, 1, 12, 12, 1, 1, 12, 2, 1, 8, 1, 10, 1, 6},
        {2, 1, 12, 12, 2, 2, 1, 4, 4, 1, 1, 6, 4, 4},
    };

    private final Checks checks;
    private final Random random;
    private final int[] seen = new int[5];
    private SpreadParity real;
    private Model model;
    private int run;
    private int call;

    private ModelTest(Checks checks) {
        this.checks = checks;
        random = new Random(20261115);
    }

    public static void main(String[] args) {
        Checks checks = new Checks("model");
        ModelTest test = new ModelTest(checks);
        for (int run = 0; run < RUNS; run++) {
            test.oneRun(run);
        }
        // The runs are worth something only if they come to the rare answers.
        for (int answer = 0; answer < test.seen.length; answer++) {
            checks.due("answer -" + answer + " was seen often", test.seen[answer] > 1000 ? 1 : 0, 1);
        }
        checks.end();
    }

    private void oneRun(int number) {
        run = number;
        int groups = number % 8 == 0 ? random.nextInt(9) - 3 : 1 + number % 3;
        real = new SpreadParity(groups);
        model = new Model(groups);
        int[] shares = SHARES[number % SHARES.length];
        int all = 0;
        for (int share : shares) {
            all += share;
        }
        for (call = 0; call < CALLS; call++) {
            int pick = random.nextInt(all);
            int kind = 0;
            while (pick >= shares[kind]) {
                pick -= shares[kind];
                kind++;
            }
            oneCall(kind);
        }
    }

    private void oneCall(int kind) {
        int a = number(kind == 6 || kind == 11 ? 21 : 8);
        int b = number(kind == 6 ? 4 : 8);
        int cell = number(random.nextInt(3) == 0 ? 63 : 12);
        int n = number(random.nextBoolean() ? 23 : 3);
        int length = random.nextInt(30) == 0 ? random.nextInt(70) - 2 : 1 + random.nextInt(random.nextBoolean() ? 24 : 6);
        int word = random.nextInt(4) == 0 ? random.nextInt() : random.nextInt(4);
        int cut = random.nextInt(8) - 2;
        switch (kind) {
            case 0 -> due("create(" + a + ", " + length + ")", real.create(a, length), model.create(a, length));
            case 1 -> due("remove(" + a + ")", real.remove(a), model.remove(a));
            case 2 -> due("write(" + a + ", " + cell + ", " + word + ", " + cut + ")",
                    real.write(a, cell, word, cut), model.write(a, cell, word, cut));
            case 3 -> due("read(" + a + ", " + cell + ")", real.read(a, cell), model.read(a, cell));
            case 4 -> due("fail(" + a + ")", real.fail(a), model.fail(a));
            case 5 -> due("replace(" + a + ")", real.replace(a), model.replace(a));
            case 6 -> due("alter(" + a + ", " + b + ", " + word + ")", real.alter(a, b, word), model.alter(a, b, word));
            case 7 -> due("rebuild(" + n + ")", real.rebuild(n), model.rebuild(n));
            case 8 -> due("moveBack(" + n + ")", real.moveBack(n), model.moveBack(n));
            case 9 -> due("scrub(" + n + ")", real.scrub(n), model.scrub(n));
            case 10 -> due("file(" + a + ", " + b + ")", real.file(a, b), model.file(a, b));
            case 11 -> due("stripe(" + a + ", " + b + ")", real.stripe(a, b), model.stripe(a, b));
            case 12 -> due("disk(" + a + ", " + b + ")", real.disk(a, b), model.disk(a, b));
            default -> due("count(" + b + ")", real.count(b), model.count(b));
        }
    }

    private void due(String text, long got, long want) {
        if (want <= 0 && want > -seen.length) {
            seen[(int) -want]++;
        }
        checks.due("run " + run + ", call " + call + ": " + text, got, want);
    }

    /** Mostly 0 .. bound - 1, now and then a number beside that. */
    private int number(int bound) {
        if (random.nextInt(40) > 0) {
            return random.nextInt(bound);
        }
        int[] odd = {-1, bound, bound + 1, Integer.MIN_VALUE, Integer.MAX_VALUE, -bound};
        return odd[random.nextInt(odd.length)];
    }
}
