/**
 * The boundary cases of "What it is" and "2 TO RUN", one method for each
 * sentence that names one; the sentence stands above its method. The short runs
 * were followed by hand. The workers that the seeds choose, of two: seed 1:
 * 0 1 0 0 0 .., seed 5: 0 1 0 1 1 ..; of three: seed 0: 2 0 1 1 2 .., seed 2:
 * 1 0 0 .., seeds 5 and -1: 1 2 1 .., the largest and the smallest seed: 0 1 0 ...
 */
final class EdgesOfRunTest {
    private static final int NONE = StageShares.NONE;
    private static final Due DUE = new Due("EdgesOfRunTest");

    public static void main(String[] args) {
        usedFor512Calls();
        oneWorker();
        sixteenWorkers();
        seedsAtTheirEnds();
        workersAreCountedByNumbers();
        nothingWaits();
        takingIsNoStep();
        doneWithTheLastStep();
        noTickWhenAllAreDone();
        batchesWaitForEachOther();
        failsAtTheLastStep();
        failsAtAnOnlyStep();
        failsAtItsOwnShareAlone();
        liveNoMore();
        liveAgainInTheNextRun();
        toldNoMore();
        oneFailureAWorkerAndRun();
        madeIsLost();
        waitsBeforeAllOthers();
        waitsBeforeOneThatFailedEarlier();
        waitsWhenNoneDoes();
        endsWith0();
        endsWith0AtOnce();
        endsWithMinus1();
        endsWithMinus1AtTheVeryLastStep();
        endsWithMinus2AfterTick20000();
        endsWithMinus1InTick20000();
        resultsAsTheyWereAfterMinus1();
        resultsAsTheyWereAfterMinus2();
        failuresStayGoneAfterMinus1();
        failuresStayGoneAfterMinus2();
        DUE.end();
    }

    private static StageShares inOneRegion(int count) {
        StageShares shares = new StageShares(count);
        for (int share = 0; share < count; share++) {
            shares.touch(share, 0);
        }
        return shares;
    }

    /** 64 shares, each in a batch of its own, which 16 workers need some 20000 ticks for. */
    private static StageShares longWork(int steps) {
        StageShares shares = inOneRegion(64);
        for (int share = 0; share < 64; share++) {
            shares.steps(share, steps);
        }
        return shares;
    }

    // An object is used for at most 512 calls after it has been made
    private static void usedFor512Calls() {
        StageShares shares = longWork(20);
        int calls = 2 * 64;
        while (calls < 510) {
            calls++;
            DUE.is("run(16, 1329), call " + calls, shares.run(16, 1329), -2);
        }
        DUE.is("run(16, 1146), call 511", shares.run(16, 1146), 0);
        DUE.is("told(0), call 512", shares.told(0), 20000);
    }

    // WORKERS 0 .. W - 1, W = 1
    private static void oneWorker() {
        StageShares shares = new StageShares(2);
        DUE.is("run(1, 9)", shares.run(1, 9), 0);
        DUE.told("one worker", shares, 4, 2, 0, 1, 1, 2, 0);
        DUE.doers("one worker", shares, 0, 0);
    }

    // WORKERS 0 .. W - 1, W = 16
    private static void sixteenWorkers() {
        StageShares shares = new StageShares(64);
        for (int share = 0; share < 64; share++) {
            shares.steps(share, 20);
        }
        DUE.is("run(16, 9)", shares.run(16, 9), 0);
        boolean[] did = new boolean[16];
        for (int share = 0; share < 64; share++) {
            int worker = shares.doneBy(share);
            DUE.is("doneBy(" + share + ") is 0 .. 15", worker >= 0 && worker < 16 ? 1 : 0, 1);
            did[worker] = true;
        }
        for (int worker = 0; worker < 16; worker++) {
            DUE.is("worker " + worker + " did a share", did[worker] ? 1 : 0, 1);
        }
        DUE.is("told(3)", shares.told(3), 16);
    }

    // x becomes x * 6364136223846793005 + 1442695040888963407; ( x >>> 33 )
    private static void seedsAtTheirEnds() {
        seedGoes(0, 5, 2);
        seedGoes(-1, 3, 1);
        seedGoes(Long.MAX_VALUE, 3, 0);
        seedGoes(Long.MIN_VALUE, 3, 0);
    }

    /** One share of one step, three workers. */
    private static void seedGoes(long seed, int ticks, int doer) {
        StageShares shares = new StageShares(1);
        DUE.is("run(3, " + seed + ")", shares.run(3, seed), 0);
        DUE.is("told(0), seed " + seed, shares.told(0), ticks);
        DUE.is("doneBy(0), seed " + seed, shares.doneBy(0), doer);
    }

    // of the live workers the one at .., counted by numbers from 0
    private static void workersAreCountedByNumbers() {
        StageShares shares = new StageShares(2);
        shares.fail(1, 0);
        // 1 takes 0, 2 takes 1, 1 fails; the next place is 1 of the live 0 and 2.
        DUE.is("run(3, 5)", shares.run(3, 5), 0);
        DUE.is("doneBy(1), place 1 is worker 2", shares.doneBy(1), 2);
        DUE.is("told(3)", shares.told(3), 2);
        shares.fail(0, 1);
        // 1 takes 0, 0 takes 1 and fails; of the live 1 and 2 place 0 does 0, place 1 takes and does 1.
        DUE.is("run(3, 2)", shares.run(3, 2), 0);
        DUE.is("told(0)", shares.told(0), 6);
        DUE.doers("worker 0 fails", shares, 1, 2);
    }

    // (nothing, if none does)
    private static void nothingWaits() {
        StageShares shares = new StageShares(1);
        DUE.is("run(2, 1)", shares.run(2, 1), 0);
        DUE.told("a tick without work", shares, 3, 1, 0, 2, 1, 1, 0);
        DUE.times("a tick without work", shares, 1);
        DUE.doers("a tick without work", shares, 0);
    }

    // if it has no share, it takes the first that waits; if it has one, it makes its next step
    private static void takingIsNoStep() {
        StageShares shares = new StageShares(1);
        DUE.is("run(1, 0)", shares.run(1, 0), 0);
        DUE.is("told(0), to take and to make", shares.told(0), 2);
        DUE.is("told(1), to make", shares.told(1), 1);
    }

    // with the last one the share is DONE by it
    private static void doneWithTheLastStep() {
        StageShares shares = new StageShares(1);
        shares.steps(0, 20);
        DUE.is("run(1, 0)", shares.run(1, 0), 0);
        DUE.told("20 steps", shares, 21, 20, 0, 1, 1, 1, 0);
    }

    // Ticks go on until all shares of the batch are done.
    private static void noTickWhenAllAreDone() {
        StageShares shares = inOneRegion(64);
        DUE.is("run(1, 0)", shares.run(1, 0), 0);
        DUE.told("64 batches", shares, 128, 64, 0, 1, 64, 64, 0);
    }

    // The batches are done in their order; at the beginning of one its shares WAIT
    private static void batchesWaitForEachOther() {
        StageShares shares = inOneRegion(2);
        // 0 takes share 0, 1 finds nothing, 0 does it; then 1 takes and does share 1.
        DUE.is("run(2, 5)", shares.run(2, 5), 0);
        DUE.told("two batches", shares, 5, 2, 0, 2, 2, 2, 0);
        DUE.doers("two batches", shares, 0, 1);
    }

    // When w is to make the last step of t, it fails instead
    private static void failsAtTheLastStep() {
        StageShares shares = new StageShares(1);
        shares.steps(0, 20);
        shares.fail(0, 0);
        DUE.is("run(1, 0)", shares.run(1, 0), -1);
        DUE.told("19 steps were made", shares, 21, 19, 1, 0, 0, 1, 0);
        DUE.doers("19 steps were made", shares, NONE);
    }

    // the last step of t, which is its first
    private static void failsAtAnOnlyStep() {
        StageShares shares = new StageShares(1);
        shares.fail(0, 0);
        DUE.is("run(1, 0)", shares.run(1, 0), -1);
        DUE.told("no step was made", shares, 2, 0, 1, 0, 0, 1, 0);
        DUE.times("no step was made", shares, 1);
    }

    // worker w fails at share t
    private static void failsAtItsOwnShareAlone() {
        StageShares shares = new StageShares(3);
        shares.leave(2, true);
        shares.fail(1, 0);
        shares.fail(15, 1);
        shares.fail(0, 2);
        DUE.is("run(1, 0)", shares.run(1, 0), 0);
        DUE.told("none of them comes", shares, 4, 2, 0, 1, 1, 2, 3);
    }

    // it is live no more
    private static void liveNoMore() {
        StageShares shares = inOneRegion(2);
        shares.fail(0, 0);
        DUE.is("run(2, 5)", shares.run(2, 5), 0);
        DUE.told("1 is left for both batches", shares, 7, 2, 1, 1, 2, 3, 0);
        DUE.doers("1 is left for both batches", shares, 1, 1);
    }

    // WORKERS 0 .. W - 1 are LIVE at first.
    private static void liveAgainInTheNextRun() {
        StageShares shares = new StageShares(1);
        shares.fail(0, 0);
        DUE.is("run(1, 0), it fails", shares.run(1, 0), -1);
        DUE.is("told(3), none is live", shares.told(3), 0);
        DUE.is("run(1, 0), it does not", shares.run(1, 0), 0);
        DUE.told("live again", shares, 2, 1, 0, 1, 1, 1, 0);
        DUE.doers("live again", shares, 0);
    }

    // the failure is told no more
    private static void toldNoMore() {
        StageShares shares = new StageShares(1);
        shares.fail(0, 0);
        shares.fail(7, 0);
        DUE.is("told(6) before", shares.told(6), 2);
        shares.run(1, 0);
        DUE.is("told(6), one has come", shares.told(6), 1);
        DUE.is("fail(7, 0), told still", shares.fail(7, 0), 0);
        DUE.is("fail(0, 0), told anew", shares.fail(0, 0), 2);
        DUE.is("run(1, 0), it comes again", shares.run(1, 0), -1);
    }

    // it is live no more: a second failure of the same worker is for a later run
    private static void oneFailureAWorkerAndRun() {
        StageShares shares = new StageShares(2);
        shares.fail(0, 0);
        shares.fail(0, 1);
        DUE.is("run(1, 0), at 0", shares.run(1, 0), -1);
        DUE.is("told(6), the second is told", shares.told(6), 1);
        DUE.is("run(1, 0), at 1", shares.run(1, 0), -1);
        DUE.doers("at 1", shares, 0, NONE);
        DUE.is("told(6), none", shares.told(6), 0);
        DUE.is("run(1, 0), at none", shares.run(1, 0), 0);
    }

    // what was made of the share is lost
    private static void madeIsLost() {
        StageShares shares = new StageShares(1);
        shares.value(0, 1);
        shares.steps(0, 3);
        shares.fail(0, 0);
        // 0 takes it, 1 finds nothing, 0 makes two steps and fails; 1 begins anew.
        DUE.is("run(2, 1)", shares.run(2, 1), 0);
        DUE.told("two steps are lost", shares, 9, 5, 1, 1, 1, 2, 0);
        DUE.times("two steps are lost", shares, 2);
        DUE.doers("two steps are lost", shares, 1);
        DUE.is("result(0)", shares.result(0), 62964477985L);
    }

    // the share waits before all others
    private static void waitsBeforeAllOthers() {
        StageShares shares = new StageShares(3);
        shares.fail(0, 0);
        shares.fail(1, 2);
        // 0 takes 0, 1 takes 1, 0 fails at 0; 1 does 1, takes 0 before 2, does it, and fails at 2.
        DUE.is("run(2, 5)", shares.run(2, 5), -1);
        DUE.told("0 before 2", shares, 8, 2, 2, 0, 0, 4, 0);
        DUE.times("0 before 2", shares, 2, 1, 1);
        DUE.doers("0 before 2", shares, 1, 1, NONE);
    }

    // the share waits before all others, one that came back earlier, too
    private static void waitsBeforeOneThatFailedEarlier() {
        StageShares shares = new StageShares(3);
        shares.fail(1, 0);
        shares.fail(2, 1);
        shares.fail(0, 0);
        // 1 takes 0, 2 takes 1, 1 fails, 2 fails; 0 does 1, and fails at 0.
        DUE.is("run(3, 5)", shares.run(3, 5), -1);
        DUE.told("1 before 0", shares, 8, 1, 3, 0, 0, 4, 0);
        DUE.times("1 before 0", shares, 2, 2, 0);
        DUE.doers("1 before 0", shares, NONE, 0, NONE);
    }

    // the share waits, where none did
    private static void waitsWhenNoneDoes() {
        StageShares shares = new StageShares(1);
        shares.fail(0, 0);
        // 0 takes it, 1 finds nothing, 0 fails, 1 takes and does it.
        DUE.is("run(2, 5)", shares.run(2, 5), 0);
        DUE.told("taken over", shares, 5, 1, 1, 1, 1, 2, 0);
        DUE.doers("taken over", shares, 1);
    }

    // 0 all batches are done
    private static void endsWith0() {
        StageShares shares = inOneRegion(64);
        DUE.is("run(16, 3)", shares.run(16, 3), 0);
        DUE.is("told(4)", shares.told(4), 64);
    }

    // 0 all batches are done, of which there are none
    private static void endsWith0AtOnce() {
        StageShares shares = new StageShares(1);
        shares.leave(0, true);
        DUE.is("run(5, 3)", shares.run(5, 3), 0);
        DUE.told("no batch", shares, 0, 0, 0, 5, 0, 0, 0);
        DUE.times("no batch", shares, NONE);
        DUE.doers("no batch", shares, NONE);
    }

    // -1 no worker is live
    private static void endsWithMinus1() {
        StageShares shares = new StageShares(3);
        for (int worker = 0; worker < 16; worker++) {
            shares.fail(worker, 1);
        }
        DUE.is("run(16, 3)", shares.run(16, 3), -1);
        DUE.is("told(2)", shares.told(2), 16);
        DUE.is("told(3)", shares.told(3), 0);
        DUE.is("told(6)", shares.told(6), 0);
        DUE.is("times(1)", shares.times(1), 16);
        DUE.is("doneBy(1)", shares.doneBy(1), NONE);
    }

    // -1 no worker is live, though all other shares are done
    private static void endsWithMinus1AtTheVeryLastStep() {
        StageShares shares = inOneRegion(3);
        shares.fail(0, 2);
        DUE.is("run(1, 3)", shares.run(1, 3), -1);
        DUE.told("only the last is not done", shares, 6, 2, 1, 0, 2, 3, 0);
        DUE.doers("only the last is not done", shares, 0, 0, NONE);
    }

    // -2 there would be more than 20000 ticks.
    // Seeds that were searched for: 1146 needs 20000 ticks, 1329 needs 20001.
    private static void endsWithMinus2AfterTick20000() {
        StageShares shares = longWork(20);
        DUE.is("run(16, 1146)", shares.run(16, 1146), 0);
        DUE.told("20000 ticks", shares, 20000, 1280, 0, 16, 64, 64, 0);
        DUE.is("run(16, 1329)", shares.run(16, 1329), -2);
        DUE.told("20001 ticks", shares, 20000, 1279, 0, 16, 63, 64, 0);
        DUE.is("doneBy(62), 20001 ticks", shares.doneBy(62) == NONE ? 1 : 0, 0);
        DUE.is("doneBy(63), 20001 ticks", shares.doneBy(63), NONE);
    }

    // -1 no worker is live; -2 there would be more than 20000 ticks.
    // Every worker fails at the last share: with seed 109 the last of them in
    // tick 20000, with seed 4849 it would be in tick 20001.
    private static void endsWithMinus1InTick20000() {
        StageShares shares = longWork(17);
        shares.steps(63, 20);
        tellAllFailAt(shares, 63);
        DUE.is("run(16, 109)", shares.run(16, 109), -1);
        DUE.told("last failure in tick 20000", shares, 20000, 63 * 17 + 16 * 19, 16, 0, 63, 63 + 16, 0);
        tellAllFailAt(shares, 63);
        DUE.is("run(16, 4849)", shares.run(16, 4849), -2);
        DUE.told("last failure after tick 20000", shares, 20000, 63 * 17 + 16 * 19, 15, 1, 63, 63 + 16, 1);
        DUE.is("times(63)", shares.times(63), 16);
    }

    private static void tellAllFailAt(StageShares shares, int share) {
        for (int worker = 0; worker < 16; worker++) {
            shares.fail(worker, share);
        }
    }

    // With -1 .. results are as they were before the run
    private static void resultsAsTheyWereAfterMinus1() {
        StageShares shares = new StageShares(2);
        shares.value(0, 1);
        shares.value(1, 1);
        shares.fail(0, 1);
        DUE.is("run(1, 0), the first", shares.run(1, 0), -1);
        DUE.is("result(0), done but 0 as before", shares.result(0), 0);
        DUE.is("run(1, 0), the second", shares.run(1, 0), 0);
        shares.value(0, 2);
        shares.fail(0, 1);
        DUE.is("run(1, 0), the third", shares.run(1, 0), -1);
        DUE.is("doneBy(0), of the third", shares.doneBy(0), 0);
        DUE.is("result(0), of the second", shares.result(0), 3999);
        DUE.is("result(1), of the second", shares.result(1), 3999);
        DUE.is("joined(), of the second", shares.joined(), (3999 << 5) ^ 3999);
    }

    // With .. -2 results are as they were before the run; seed 4 ends with 0, seed 1 with -2.
    private static void resultsAsTheyWereAfterMinus2() {
        StageShares shares = longWork(20);
        shares.value(0, 1);
        DUE.is("run(16, 1), the first", shares.run(16, 1), -2);
        DUE.is("result(0), done but 0 as before", shares.result(0), 0);
        DUE.is("joined(), as before", shares.joined(), 0);
        DUE.is("run(16, 4), the second", shares.run(16, 4), 0);
        shares.value(0, 7);
        DUE.is("run(16, 1), the third", shares.run(16, 1), -2);
        DUE.is("doneBy(0), of the third", shares.doneBy(0) == NONE ? 1 : 0, 0);
        DUE.is("result(0), of the second", shares.result(0), -5658274385187502353L);
    }

    // With -1 .. (failures that came stay gone)
    private static void failuresStayGoneAfterMinus1() {
        StageShares shares = new StageShares(2);
        shares.fail(0, 0);
        shares.fail(1, 0);
        shares.fail(2, 0);
        DUE.is("run(2, 5)", shares.run(2, 5), -1);
        DUE.is("told(6), 2 did not come", shares.told(6), 1);
        DUE.is("fail(2, 0), told still", shares.fail(2, 0), 0);
        DUE.is("run(2, 5), they are gone", shares.run(2, 5), 0);
    }

    // With .. -2 .. (failures that came stay gone); with seed 11 worker 1 fails and 0 does not.
    private static void failuresStayGoneAfterMinus2() {
        StageShares shares = longWork(20);
        shares.fail(0, 50);
        shares.fail(1, 50);
        DUE.is("run(16, 11)", shares.run(16, 11), -2);
        DUE.told("1 fails at 50", shares, 20000, 1243, 1, 15, 61, 63, 1);
        DUE.is("fail(0, 50), told still", shares.fail(0, 50), 0);
        DUE.is("fail(1, 50), told anew", shares.fail(1, 50), 2);
    }
}
