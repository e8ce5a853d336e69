/**
 * Promises 8 to 12: fail, run, told, times, doneBy. The runs with two and
 * three workers were followed by hand; seed 0 chooses among two workers
 * 1 0 1 0 1 1 0 .., seed 2 chooses 0 0 0 0 1 1 .. among two and 1 0 0 .. among
 * three, and seed -1 chooses 0 1 1 0 0 1 .. among two.
 */
final class RunTest {
    private static final int NONE = StageShares.NONE;
    private static final int OUTSIDE = StageShares.OUTSIDE;
    private static final Due DUE = new Due("RunTest");

    public static void main(String[] args) {
        promise8Fail();
        promise8Full();
        promise9OneWorker();
        promise9IdleWorker();
        promise9BatchesInOrder();
        promise9SeedBelowZero();
        promise9ShareWaitsBeforeAllOthers();
        promise9NoWorkerIsLive();
        promise9LiveAreCountedByNumbers();
        promise9FailuresThatDoNotCome();
        promise9FailureAtTheLastStepAlone();
        promise9NothingToDo();
        promise9Outside();
        promises10To12Outside();
        promise11LeftOutThen();
        DUE.end();
    }

    private static void promise8Fail() {
        StageShares shares = new StageShares(3);
        DUE.is("fail(0, 0)", shares.fail(0, 0), 1);
        DUE.is("fail(15, 2)", shares.fail(15, 2), 2);
        DUE.is("fail(0, 0) again", shares.fail(0, 0), 0);
        DUE.is("fail(0, 2)", shares.fail(0, 2), 3);
        DUE.is("fail(16, 0)", shares.fail(16, 0), OUTSIDE);
        DUE.is("fail(-1, 0)", shares.fail(-1, 0), OUTSIDE);
        DUE.is("fail(0, 3)", shares.fail(0, 3), OUTSIDE);
        DUE.is("fail(0, -1)", shares.fail(0, -1), OUTSIDE);
        DUE.is("told(6)", shares.told(6), 3);
        DUE.is("run(1) with fail(0, 0)", shares.run(1, 0), -1);
        DUE.is("told(6), one has come", shares.told(6), 2);
        DUE.is("fail(0, 0), told no more", shares.fail(0, 0), 3);
    }

    private static void promise8Full() {
        StageShares shares = new StageShares(64);
        for (int i = 0; i < 20; i++) {
            DUE.is("fail number " + i, shares.fail(i % 16, 63 - i), i + 1);
        }
        DUE.is("fail, there are 20", shares.fail(0, 0), StageShares.FULL);
        DUE.is("fail, outside before full", shares.fail(16, 0), OUTSIDE);
        DUE.is("fail, told already though full", shares.fail(0, 63), 0);
        DUE.is("told(6)", shares.told(6), 20);
        DUE.is("run(1)", shares.run(1, 0), -1);
        DUE.is("fail, there is room again", shares.fail(0, 0), 20);
        DUE.is("fail, full again", shares.fail(0, 1), StageShares.FULL);
    }

    private static void promise9OneWorker() {
        StageShares shares = new StageShares(3);
        shares.steps(1, 20);
        shares.touch(0, 1);
        shares.touch(2, 1);
        DUE.is("run(1, 77)", shares.run(1, 77), 0);
        DUE.told("one worker", shares, 25, 22, 0, 1, 2, 3, 0);
        DUE.times("one worker", shares, 1, 1, 1);
        DUE.doers("one worker", shares, 0, 0, 0);
    }

    private static void promise9IdleWorker() {
        StageShares shares = new StageShares(1);
        shares.steps(0, 3);
        DUE.is("run(2, 0)", shares.run(2, 0), 0);
        DUE.told("idle worker", shares, 6, 3, 0, 2, 1, 1, 0);
        DUE.doers("idle worker", shares, 1);
    }

    private static void promise9BatchesInOrder() {
        StageShares shares = new StageShares(2);
        shares.touch(0, 0);
        shares.touch(1, 0);
        DUE.is("run(2, 0)", shares.run(2, 0), 0);
        DUE.told("two batches", shares, 7, 2, 0, 2, 2, 2, 0);
        DUE.doers("two batches", shares, 1, 0);
    }

    private static void promise9SeedBelowZero() {
        StageShares shares = new StageShares(1);
        shares.steps(0, 2);
        DUE.is("run(2, -1)", shares.run(2, -1), 0);
        DUE.told("seed -1", shares, 5, 2, 0, 2, 1, 1, 0);
        DUE.doers("seed -1", shares, 0);
    }

    private static StageShares fourSharesOfWhichTheFirstHasTwoSteps() {
        StageShares shares = new StageShares(4);
        shares.steps(0, 2);
        return shares;
    }

    private static void promise9ShareWaitsBeforeAllOthers() {
        StageShares shares = fourSharesOfWhichTheFirstHasTwoSteps();
        shares.fail(1, 0);
        DUE.is("run(2, 0)", shares.run(2, 0), 0);
        DUE.told("one fails", shares, 12, 6, 1, 1, 1, 5, 0);
        DUE.times("one fails", shares, 2, 1, 1, 1);
        DUE.doers("one fails", shares, 0, 0, 0, 0);
        DUE.is("run(2, 0), the failure is told no more", shares.run(2, 0), 0);
        DUE.is("told(2)", shares.told(2), 0);
    }

    private static void promise9NoWorkerIsLive() {
        StageShares shares = fourSharesOfWhichTheFirstHasTwoSteps();
        shares.fail(1, 0);
        shares.fail(0, 0);
        DUE.is("run(2, 0)", shares.run(2, 0), -1);
        DUE.told("both fail", shares, 8, 3, 2, 0, 0, 3, 0);
        DUE.times("both fail", shares, 2, 1, 0, 0);
        DUE.doers("both fail", shares, NONE, 0, NONE, NONE);
        DUE.is("run(2, 0), all are live again", shares.run(2, 0), 0);
        DUE.is("told(3)", shares.told(3), 2);
    }

    private static void promise9LiveAreCountedByNumbers() {
        StageShares shares = new StageShares(2);
        shares.fail(0, 1);
        DUE.is("run(3, 2)", shares.run(3, 2), 0);
        DUE.told("worker 0 fails", shares, 6, 2, 1, 2, 1, 3, 0);
        DUE.times("worker 0 fails", shares, 1, 2);
        DUE.doers("worker 0 fails", shares, 1, 2);
    }

    private static void promise9FailuresThatDoNotCome() {
        StageShares shares = new StageShares(3);
        shares.leave(1, true);
        shares.fail(1, 0);
        shares.fail(0, 1);
        DUE.is("run(1, 4)", shares.run(1, 4), 0);
        DUE.told("no such worker, no such share", shares, 4, 2, 0, 1, 1, 2, 2);
    }

    private static void promise9FailureAtTheLastStepAlone() {
        StageShares shares = new StageShares(2);
        shares.touch(0, 0);
        shares.touch(1, 0);
        shares.steps(1, 20);
        shares.fail(0, 1);
        DUE.is("run(1, 0)", shares.run(1, 0), -1);
        DUE.told("at the last step", shares, 23, 20, 1, 0, 1, 2, 0);
        DUE.doers("at the last step", shares, 0, NONE);
    }

    private static void promise9NothingToDo() {
        StageShares shares = new StageShares(2);
        shares.leave(0, true);
        shares.leave(1, true);
        DUE.is("run(16, 3)", shares.run(16, 3), 0);
        DUE.told("all left out", shares, 0, 0, 0, 16, 0, 0, 0);
        DUE.times("all left out", shares, NONE, NONE);
    }

    private static void promise9Outside() {
        StageShares shares = new StageShares(2);
        DUE.is("run(1, 0)", shares.run(1, 0), 0);
        shares.leave(0, true);
        DUE.is("run(0)", shares.run(0, 1), OUTSIDE);
        DUE.is("run(17)", shares.run(17, 1), OUTSIDE);
        DUE.is("run(-1)", shares.run(-1, 1), OUTSIDE);
        DUE.is("run(min)", shares.run(Integer.MIN_VALUE, 1), OUTSIDE);
        DUE.told("the run before the refusals", shares, 4, 2, 0, 1, 1, 2, 0);
        DUE.times("the run before the refusals", shares, 1, 1);
    }

    private static void promises10To12Outside() {
        StageShares shares = new StageShares(2);
        shares.run(1, 0);
        DUE.is("told(7)", shares.told(7), OUTSIDE);
        DUE.is("told(-1)", shares.told(-1), OUTSIDE);
        DUE.is("told(max)", shares.told(Integer.MAX_VALUE), OUTSIDE);
        DUE.is("times(2)", shares.times(2), OUTSIDE);
        DUE.is("times(-1)", shares.times(-1), OUTSIDE);
        DUE.is("doneBy(2)", shares.doneBy(2), OUTSIDE);
        DUE.is("doneBy(-1)", shares.doneBy(-1), OUTSIDE);
    }

    private static void promise11LeftOutThen() {
        StageShares shares = new StageShares(2);
        shares.run(1, 0);
        shares.leave(0, true);
        DUE.times("left out after the run", shares, 1, 1);
        DUE.doers("left out after the run", shares, 0, 0);
        shares.run(1, 0);
        shares.leave(0, false);
        DUE.times("left out then", shares, NONE, 1);
        DUE.doers("left out then", shares, NONE, 0);
    }
}
