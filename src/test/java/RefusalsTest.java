import java.util.Arrays;

/**
 * REFUSALS change nothing and answer, the first that fits: OUTSIDE, FULL. Each
 * refused call is made on an object that has everything: values, regions,
 * shares left out, a run, and as many failures as there may be. What can be
 * asked is asked before and after it, and after one more run beside a twin that
 * made no refused call.
 */
final class RefusalsTest {
    private static final int SHARES = 6;
    private static final int OUTSIDE = StageShares.OUTSIDE;
    private static final int FULL = StageShares.FULL;
    private static final Due DUE = new Due("RefusalsTest");

    /** A call that is due to be refused. */
    private interface Call {
        long on(StageShares shares);
    }

    public static void main(String[] args) {
        everythingIsThere();
        shareThatThereIsNot(SHARES);
        shareThatThereIsNot(-1);
        shareThatThereIsNot(64);
        shareThatThereIsNot(Integer.MIN_VALUE);
        shareThatThereIsNot(Integer.MAX_VALUE);
        numbersOutOfTheirRange();
        twoThatFit();
        full();
        DUE.end();
    }

    /** Without this a refused call might have nothing to change. */
    private static void everythingIsThere() {
        StageShares shares = withEverything();
        DUE.is("batches()", shares.batches(), 3);
        DUE.is("told(2)", shares.told(2), 1);
        DUE.is("told(6)", shares.told(6), 20);
        DUE.is("times(4), left out then", shares.times(4), StageShares.NONE);
        DUE.is("batch(3), left out now", shares.batch(3), StageShares.NONE);
        DUE.is("joined() is not plain()", shares.joined() == shares.plain() ? 1 : 0, 0);
        DUE.is("run(4, 8)", shares.run(4, 8), 0);
        DUE.is("told(2) of it", shares.told(2), 3);
    }

    private static void shareThatThereIsNot(int share) {
        refused("value(" + share + ", 9)", OUTSIDE, s -> s.value(share, 9));
        refused("steps(" + share + ", 9)", OUTSIDE, s -> s.steps(share, 9));
        refused("touch(" + share + ", 9)", OUTSIDE, s -> s.touch(share, 9));
        refused("leave(" + share + ", true)", OUTSIDE, s -> s.leave(share, true));
        refused("leave(" + share + ", false)", OUTSIDE, s -> s.leave(share, false));
        refused("batch(" + share + ")", OUTSIDE, s -> s.batch(share));
        refused("fail(0, " + share + ")", OUTSIDE, s -> s.fail(0, share));
        refused("times(" + share + ")", OUTSIDE, s -> s.times(share));
        refused("doneBy(" + share + ")", OUTSIDE, s -> s.doneBy(share));
        refused("result(" + share + ")", 0, s -> s.result(share));
    }

    private static void numbersOutOfTheirRange() {
        for (int n : new int[] {0, 21, -1, Integer.MIN_VALUE, Integer.MAX_VALUE}) {
            refused("steps(0, " + n + ")", OUTSIDE, s -> s.steps(0, n));
        }
        for (int region : new int[] {16, -1, 32, Integer.MIN_VALUE, Integer.MAX_VALUE}) {
            refused("touch(0, " + region + ")", OUTSIDE, s -> s.touch(0, region));
        }
        for (int worker : new int[] {16, -1, Integer.MIN_VALUE, Integer.MAX_VALUE}) {
            refused("fail(" + worker + ", 0)", OUTSIDE, s -> s.fail(worker, 0));
        }
        for (int workers : new int[] {0, 17, -1, Integer.MIN_VALUE, Integer.MAX_VALUE}) {
            refused("run(" + workers + ", 3)", OUTSIDE, s -> s.run(workers, 3));
        }
        for (int what : new int[] {7, -1, Integer.MIN_VALUE, Integer.MAX_VALUE}) {
            refused("told(" + what + ")", OUTSIDE, s -> s.told(what));
        }
    }

    private static void twoThatFit() {
        refused("steps(6, 21)", OUTSIDE, s -> s.steps(SHARES, 21));
        refused("touch(-1, -1)", OUTSIDE, s -> s.touch(-1, -1));
        refused("fail(16, 6)", OUTSIDE, s -> s.fail(16, SHARES));
    }

    private static void full() {
        refused("fail(0, 0), there are 20", FULL, s -> s.fail(0, 0));
        refused("fail(15, 5), there are 20", FULL, s -> s.fail(15, SHARES - 1));
        // Not refused, but it changes nothing either.
        refused("fail(9, 1), told already", 0, s -> s.fail(9, 1));
    }

    private static void refused(String name, long due, Call call) {
        StageShares shares = withEverything();
        StageShares twin = withEverything();
        long[] before = allAnswers(shares);
        DUE.is(name, call.on(shares), due);
        same(name + ", at once", before, allAnswers(shares));
        DUE.is(name + ": the next run", shares.run(4, 8), twin.run(4, 8));
        same(name + ", after the next run", allAnswers(twin), allAnswers(shares));
    }

    private static StageShares withEverything() {
        StageShares shares = new StageShares(SHARES);
        for (int share = 0; share < SHARES; share++) {
            shares.value(share, share * 1000003L + 1);
            shares.steps(share, share + 2);
            shares.touch(share, share % 2);
            shares.touch(share, 5 + share);
        }
        shares.leave(4, true);
        shares.fail(1, 0);
        shares.run(3, 2);
        shares.leave(4, false);
        shares.leave(3, true);
        shares.value(0, 77);
        for (int worker = 1; worker < 15; worker++) {
            shares.fail(worker, 1);
        }
        for (int worker = 1; shares.told(6) < 20; worker++) {
            shares.fail(worker, 2);
        }
        return shares;
    }

    /** What every call that only asks answers for every share. */
    private static long[] allAnswers(StageShares shares) {
        long[] answers = new long[10 + 4 * SHARES];
        answers[0] = shares.batches();
        answers[1] = shares.joined();
        answers[2] = shares.plain();
        for (int what = 0; what < 7; what++) {
            answers[3 + what] = shares.told(what);
        }
        for (int share = 0; share < SHARES; share++) {
            answers[10 + 4 * share] = shares.batch(share);
            answers[11 + 4 * share] = shares.times(share);
            answers[12 + 4 * share] = shares.doneBy(share);
            answers[13 + 4 * share] = shares.result(share);
        }
        return answers;
    }

    private static void same(String when, long[] due, long[] got) {
        DUE.is(when + ": " + Arrays.toString(got) + ", due is " + Arrays.toString(due),
                Arrays.equals(due, got) ? 1 : 0, 1);
    }
}
