import java.util.Random;

/** All promises: long runs of calls, each answer held against the model's. */
final class ModelTest {
    /** What an object answers after its 512th call is free. */
    private static final int MOST_CALLS = 512;
    /** No turn makes more calls than this. */
    private static final int CALLS_A_TURN = 32;
    private static final Due DUE = new Due("ModelTest");

    private final Random random;
    private final String name;
    private final int shares;
    private final int regions;
    private final StageShares program;
    private final Model model;
    private int calls = 0;

    private ModelTest(String kind, int number, int shares) {
        random = new Random(number);
        name = kind + number + ": ";
        this.shares = shares;
        regions = 1 + random.nextInt(16);
        program = new StageShares(shares);
        model = new Model(shares);
    }

    public static void main(String[] args) {
        int[] sizes = {0, 1, 2, 3, 5, 8, 20, 63, 64, 70};
        for (int number = 0; number < 2000; number++) {
            new ModelTest("run ", number, sizes[number % sizes.length]).go();
        }
        int[] ends = new int[3];
        for (int number = 0; number < 40; number++) {
            new ModelTest("long run ", number, 64).goLong(ends);
        }
        for (int end = 0; end < 3; end++) {
            DUE.is("some long run ends with -" + end, ends[end] > 0 ? 1 : 0, 1);
        }
        DUE.end();
    }

    private void go() {
        while (calls + CALLS_A_TURN <= MOST_CALLS) {
            turn();
        }
    }

    /** Runs that go on for about as many ticks as there may be; counts how they end. */
    private void goLong(int[] ends) {
        int most = 17 + random.nextInt(4);
        for (int share = 0; share < shares; share++) {
            touch(share, 0);
            steps(share, most - random.nextInt(2));
        }
        while (calls + 3 * CALLS_A_TURN <= MOST_CALLS) {
            tellFailures();
            ends[-run(16, seed())]++;
            ask(about(shares));
        }
    }

    /** A few, or of all workers at one of the last shares. */
    private void tellFailures() {
        boolean isForAll = random.nextInt(3) == 0;
        int last = shares - 1 - random.nextInt(2);
        for (int worker = 0; worker < 16; worker++) {
            if (isForAll) fail(worker, last);
            else if (random.nextInt(8) == 0) fail(worker, about(shares));
        }
    }

    /** Mostly in its range, now and then just or far outside. */
    private int about(int range) {
        int kind = random.nextInt(60);
        if (kind == 0) return -1;
        if (kind == 1) return range;
        if (kind == 2) return random.nextInt();
        return random.nextInt(Math.max(1, range));
    }

    private long seed() {
        return random.nextBoolean() ? random.nextLong() : random.nextInt(100);
    }

    private void same(String call, long got, long want) {
        calls++;
        DUE.is(name + call, got, want);
    }

    private void turn() {
        int share = about(shares);
        int kind = random.nextInt(200);
        if (kind < 120) describe(kind / 3, share);
        else if (kind < 170) fail(about(16) / (1 + random.nextInt(4)), share);
        else if (kind < 180) run(about(16) + 1, seed());
        else if (kind < 199) ask(share);
        else clear();
    }

    private void clear() {
        calls++;
        program.clear();
        model.clear();
    }

    private void describe(int kind, int share) {
        if (kind < 8) {
            long v = random.nextBoolean() ? random.nextLong() : random.nextInt(9) - 4;
            same("value(" + share + ", " + v + ")", program.value(share, v), model.value(share, v));
        } else if (kind < 22) {
            steps(share, about(20) + 1);
        } else if (kind < 34) {
            touch(share, random.nextInt(30) == 0 ? about(16) : random.nextInt(regions));
        } else {
            boolean on = random.nextInt(3) == 0;
            same("leave(" + share + ", " + on + ")", program.leave(share, on), model.leave(share, on));
        }
    }

    private void steps(int share, int n) {
        same("steps(" + share + ", " + n + ")", program.steps(share, n), model.steps(share, n));
    }

    private void touch(int share, int region) {
        same("touch(" + share + ", " + region + ")", program.touch(share, region), model.touch(share, region));
    }

    private void fail(int worker, int share) {
        same("fail(" + worker + ", " + share + ")", program.fail(worker, share), model.fail(worker, share));
    }

    /** Answers how the model's run ended. */
    private int run(int workers, long seed) {
        int due = model.run(workers, seed);
        same("run(" + workers + ", " + seed + ")", program.run(workers, seed), due);
        for (int what = 0; what < 7; what++) {
            same("told(" + what + ")", program.told(what), model.told(what));
        }
        for (int i = 0; i < 4; i++) {
            int share = about(shares);
            same("times(" + share + ")", program.times(share), model.times(share));
            same("doneBy(" + share + ")", program.doneBy(share), model.doneBy(share));
            same("result(" + share + ")", program.result(share), model.result(share));
        }
        return due;
    }

    private void ask(int share) {
        int what = about(7);
        same("batches()", program.batches(), model.batches());
        same("batch(" + share + ")", program.batch(share), model.batch(share));
        same("told(" + what + ")", program.told(what), model.told(what));
        same("times(" + share + ")", program.times(share), model.times(share));
        same("doneBy(" + share + ")", program.doneBy(share), model.doneBy(share));
        same("result(" + share + ")", program.result(share), model.result(share));
        same("joined()", program.joined(), model.joined());
        same("plain()", program.plain(), model.plain());
    }
}
