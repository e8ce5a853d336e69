import java.util.Random;

/** All promises: long runs of calls, each answer held against the model's. */
final class ModelTest {
    /** What an object answers after its 512th call is free. */
    private static final int MOST_CALLS = 512;
    /** No turn makes more calls than this. */
    private static final int CALLS_A_TURN = 32;
    private static final Due DUE = new Due("ModelTest");

    private final Random random;
    private final String name;
    private final int shares;
    private final int regions;
    private final StageShares program;
    private final Model model;
    private int calls = 0;

    private ModelTest(int number) {
        random = new Random(number);
        name = "run " + number + ": ";
        int[] sizes = {0, 1, 2, 3, 5, 8, 20, 63, 64, 70};
        shares = sizes[number % sizes.length];
        regions = 1 + random.nextInt(16);
        program = new StageShares(shares);
        model = new Model(shares);
    }

    public static void main(String[] args) {
        for (int number = 0; number < 2000; number++) {
            new ModelTest(number).go();
        }
        DUE.end();
    }

    private void go() {
        while (calls + CALLS_A_TURN <= MOST_CALLS) {
            turn();
        }
    }

    /** Mostly in its range, now and then just or far outside. */
    private int about(int range) {
        int kind = random.nextInt(60);
        if (kind == 0) return -1;
        if (kind == 1) return range;
        if (kind == 2) return random.nextInt();
        return random.nextInt(Math.max(1, range));
    }

    private long seed() {
        return random.nextBoolean() ? random.nextLong() : random.nextInt(100);
    }

    private void same(String call, long got, long want) {
        calls++;
        DUE.is(name + call, got, want);
    }

    private void turn() {
        int share = about(shares);
        int kind = random.nextInt(200);
        if (kind < 120) describe(kind / 3, share);
        else if (kind < 170) fail(share);
        else if (kind < 180) run();
        else if (kind < 199) ask(share);
        else clear();
    }

    private void clear() {
        calls++;
        program.clear();
        model.clear();
    }

    private void describe(int kind, int share) {
        if (kind < 8) {
            long v = random.nextBoolean() ? random.nextLong() : random.nextInt(9) - 4;
            same("value(" + share + ", " + v + ")", program.value(share, v), model.value(share, v));
        } else if (kind < 22) {
            int n = about(20) + 1;
            same("steps(" + share + ", " + n + ")", program.steps(share, n), model.steps(share, n));
        } else if (kind < 34) {
            int region = random.nextInt(30) == 0 ? about(16) : random.nextInt(regions);
            same("touch(" + share + ", " + region + ")", program.touch(share, region), model.touch(share, region));
        } else {
            boolean on = random.nextInt(3) == 0;
            same("leave(" + share + ", " + on + ")", program.leave(share, on), model.leave(share, on));
        }
    }

    private void fail(int share) {
        int worker = about(16) / (1 + random.nextInt(4));
        same("fail(" + worker + ", " + share + ")", program.fail(worker, share), model.fail(worker, share));
    }

    private void run() {
        int workers = about(16) + 1;
        long seed = seed();
        same("run(" + workers + ", " + seed + ")", program.run(workers, seed), model.run(workers, seed));
        for (int what = 0; what < 7; what++) {
            same("told(" + what + ")", program.told(what), model.told(what));
        }
        for (int i = 0; i < 4; i++) {
            int share = about(shares);
            same("times(" + share + ")", program.times(share), model.times(share));
            same("doneBy(" + share + ")", program.doneBy(share), model.doneBy(share));
            same("result(" + share + ")", program.result(share), model.result(share));
        }
    }

    private void ask(int share) {
        int what = about(7);
        same("batches()", program.batches(), model.batches());
        same("batch(" + share + ")", program.batch(share), model.batch(share));
        same("told(" + what + ")", program.told(what), model.told(what));
        same("times(" + share + ")", program.times(share), model.times(share));
        same("doneBy(" + share + ")", program.doneBy(share), model.doneBy(share));
        same("result(" + share + ")", program.result(share), model.result(share));
        same("joined()", program.joined(), model.joined());
        same("plain()", program.plain(), model.plain());
    }
}
