/** Promises 13 to 16: result, joined, plain, clear. */
final class ResultsTest {
    /** ((1 << 7) ^ 1) * 31: value 1, one step. */
    private static final long OF_1 = 3999;
    /** ((2 << 7) ^ 2) * 31: value 2, one step. */
    private static final long OF_2 = 7998;
    /** ((3999 << 7) ^ 1) * 31 + 1: value 1, two steps. */
    private static final long OF_1_TWICE = 15868064;
    /** All bits turn into none, and then -1 * 31 + 1: value -1, two steps. */
    private static final long OF_MINUS_1_TWICE = -30;

    private static final Due DUE = new Due("ResultsTest");

    public static void main(String[] args) {
        promise13Result();
        promise13LeftOut();
        promise13RunsThatDidNotEndWell();
        promise13DoneInARunThatFailedThenLeftOut();
        promise14Joined();
        promise15Plain();
        joinTurns();
        sameForAllWorkersAndSeeds();
        promise16Clear();
        promise16SharesStay();
        DUE.end();
    }

    private static void promise13Result() {
        StageShares shares = new StageShares(3);
        shares.value(0, 1);
        shares.value(1, 1);
        shares.steps(1, 2);
        shares.value(2, -1);
        shares.steps(2, 2);
        DUE.is("result(0) before a run", shares.result(0), 0);
        shares.run(2, 5);
        DUE.is("result(0)", shares.result(0), OF_1);
        DUE.is("result(1)", shares.result(1), OF_1_TWICE);
        DUE.is("result(2)", shares.result(2), OF_MINUS_1_TWICE);
        shares.value(0, 2);
        DUE.is("result(0), by the latest run", shares.result(0), OF_1);
        shares.run(1, 5);
        DUE.is("result(0), run again", shares.result(0), OF_2);
        DUE.is("result(3)", shares.result(3), 0);
        DUE.is("result(-1)", shares.result(-1), 0);
        DUE.is("result(max)", shares.result(Integer.MAX_VALUE), 0);
    }

    private static void promise13LeftOut() {
        StageShares shares = new StageShares(2);
        shares.value(0, 1);
        shares.value(1, 1);
        shares.leave(1, true);
        shares.run(1, 0);
        DUE.is("result(1), left out", shares.result(1), 0);
        shares.leave(1, false);
        shares.leave(0, true);
        shares.value(0, 2);
        shares.run(1, 0);
        DUE.is("result(0), of the run before", shares.result(0), OF_1);
        DUE.is("result(1), not left out any more", shares.result(1), OF_1);
    }

    private static void promise13RunsThatDidNotEndWell() {
        StageShares shares = new StageShares(2);
        shares.value(0, 1);
        shares.fail(0, 1);
        DUE.is("run(1, 0)", shares.run(1, 0), -1);
        DUE.is("doneBy(0)", shares.doneBy(0), 0);
        DUE.is("result(0), none before", shares.result(0), 0);
        shares.run(1, 0);
        shares.value(0, 2);
        shares.fail(0, 1);
        DUE.is("run(1, 0)", shares.run(1, 0), -1);
        DUE.is("result(0), as before", shares.result(0), OF_1);
    }

    private static void promise13DoneInARunThatFailedThenLeftOut() {
        StageShares shares = new StageShares(2);
        shares.value(0, 1);
        shares.fail(0, 1);
        DUE.is("run(1, 0)", shares.run(1, 0), -1);
        shares.leave(0, true);
        DUE.is("run(1, 0), 0 is left out", shares.run(1, 0), 0);
        DUE.is("result(0), no run that counts", shares.result(0), 0);
        shares.leave(0, false);
        DUE.is("joined(), no run that counts", shares.joined(), 0);
    }

    private static void promise14Joined() {
        StageShares shares = new StageShares(3);
        shares.value(0, 1);
        shares.value(1, 1);
        shares.value(2, 2);
        DUE.is("joined() before a run", shares.joined(), 0);
        shares.run(1, 0);
        shares.leave(1, true);
        DUE.is("joined(), 1 is left out now", shares.joined(), (OF_1 << 5) ^ OF_2);
        shares.leave(1, false);
        DUE.is("joined(), all", shares.joined(), (OF_1 << 10) ^ (OF_1 << 5) ^ OF_2);
        shares.value(0, 2);
        DUE.is("joined(), of results they have", shares.joined(), (OF_1 << 10) ^ (OF_1 << 5) ^ OF_2);
    }

    private static void promise15Plain() {
        StageShares shares = new StageShares(3);
        shares.value(0, 1);
        shares.value(1, 1);
        shares.value(2, 2);
        DUE.is("plain()", shares.plain(), (OF_1 << 10) ^ (OF_1 << 5) ^ OF_2);
        shares.leave(1, true);
        DUE.is("plain(), 1 is left out", shares.plain(), (OF_1 << 5) ^ OF_2);
        shares.leave(0, true);
        shares.value(2, -1);
        shares.steps(2, 2);
        DUE.is("plain(), here and now", shares.plain(), OF_MINUS_1_TWICE);
        DUE.is("joined(), not by plain()", shares.joined(), 0);
        DUE.is("result(2), not by plain()", shares.result(2), 0);
        DUE.is("times(2), not by plain()", shares.times(2), StageShares.NONE);
    }

    // A shift in place of a turn would push the bits of share 0 out.
    private static void joinTurns() {
        StageShares shares = new StageShares(64);
        shares.value(0, 1);
        shares.run(4, 0);
        DUE.is("joined(), 63 turns by 5", shares.joined(), Long.rotateLeft(OF_1, 63 * 5 % 64));
        DUE.is("plain(), 63 turns by 5", shares.plain(), Long.rotateLeft(OF_1, 63 * 5 % 64));
    }

    private static void sameForAllWorkersAndSeeds() {
        for (int workers = 1; workers <= 16; workers++) {
            StageShares shares = new StageShares(20);
            for (int share = 0; share < 20; share++) {
                shares.value(share, share * 0x9E3779B97F4A7C15L);
                shares.steps(share, 1 + share * 7 % 20);
                shares.touch(share, share % 3);
            }
            for (int worker = 1; worker < workers; worker++) {
                shares.fail(worker, worker);
            }
            DUE.is("run(" + workers + ")", shares.run(workers, workers * 31L), 0);
            DUE.is("joined() of " + workers, shares.joined(), shares.plain());
        }
    }

    private static void promise16Clear() {
        StageShares shares = new StageShares(2);
        shares.value(0, 1);
        shares.steps(0, 5);
        shares.touch(0, 3);
        shares.touch(1, 3);
        shares.fail(0, 1);
        shares.run(2, 0);
        shares.run(2, 0);
        shares.leave(1, true);
        shares.fail(7, 1);
        shares.clear();
        DUE.told("cleared", shares, 0, 0, 0, 0, 0, 0, 0);
        DUE.is("plain(), cleared", shares.plain(), 0);
        DUE.is("joined(), cleared", shares.joined(), 0);
        DUE.is("batches(), cleared", shares.batches(), 1);
        DUE.is("batch(1), cleared", shares.batch(1), 0);
        for (int share = 0; share < 2; share++) {
            DUE.is("result, cleared", shares.result(share), 0);
            DUE.is("times, cleared", shares.times(share), StageShares.NONE);
            DUE.is("doneBy, cleared", shares.doneBy(share), StageShares.NONE);
            DUE.is("leave, cleared", shares.leave(share, false), 0);
            DUE.is("steps, cleared", shares.steps(share, 2), 1);
            DUE.is("touch, cleared", shares.touch(share, 3), 1);
        }
        DUE.is("fail(7, 1), cleared", shares.fail(7, 1), 1);
        DUE.is("fail(0, 1), cleared", shares.fail(0, 1), 2);
    }

    private static void promise16SharesStay() {
        StageShares shares = new StageShares(5);
        shares.clear();
        DUE.is("value(4) of five", shares.value(4, 1), 1);
        DUE.is("value(5) of five", shares.value(5, 1), StageShares.OUTSIDE);
    }
}
