/**
 * The boundary cases of the promises, one method for each sentence that names
 * one; the sentence stands above its method. RefusalsTest looks at what a
 * refused call leaves unchanged.
 */
final class EdgesOfPromisesTest {
    private static final int NONE = StageShares.NONE;
    private static final int OUTSIDE = StageShares.OUTSIDE;
    private static final int FULL = StageShares.FULL;
    /** Numbers that are far outside every range. */
    private static final int[] FAR = {Integer.MIN_VALUE, -64, 64, 1 << 16, Integer.MAX_VALUE};
    private static final Due DUE = new Due("EdgesOfPromisesTest");

    public static void main(String[] args) {
        promise1OneIfBelow();
        promise1SixtyFourIfAbove();
        promise1AsManyAsAsked();
        promise1NoFailures();
        promise1NothingRun();
        promise2AnotherValue();
        promise2Outside();
        promise3HowManyItHad();
        promise3Outside();
        promise4ZeroIfItDid();
        promise4Outside();
        promise5OneIfThatChangesIt();
        promise5Outside();
        promise6HowManyBatches();
        promise6AllLeftOut();
        promise7None();
        promise7Outside();
        promise8HowManyAre();
        promise8ZeroIfToldAlready();
        promise8Outside();
        promise8Full();
        promise8OutsideBeforeFull();
        promise8RoomAgain();
        promise9Outside();
        promise9OneToSixteen();
        promise10NothingRun();
        promise10LostStepsToo();
        promise10AgainAndAgain();
        promise10FailuresToldNow();
        promise10Outside();
        promise11NoneIfLeftOutThen();
        promise11NoneIfNothingWasRun();
        promise11ZeroIfItWaitedOnly();
        promise11Outside();
        promise12NoneIfNotDone();
        promise12NoneIfNothingWasRun();
        promise12Outside();
        promise13ZeroBeforeOne();
        promise13LatestRunThatEndedWith0();
        promise13InWhichItWasNotLeftOut();
        promise13NoSuchShare();
        promise14NotLeftOutNow();
        promise15HereAndNow();
        promise15LeftOut();
        promise16AsAtFirst();
        promise16NothingWasRun();
        promise16RoomForFailures();
        promise16ANewObject();
        DUE.end();
    }

    private static void sharesAre(int asked, int due) {
        StageShares shares = new StageShares(asked);
        String name = "new StageShares(" + asked + "): ";
        DUE.is(name + "batch(first)", shares.batch(0), 0);
        DUE.is(name + "batch(last)", shares.batch(due - 1), 0);
        DUE.is(name + "batch(one more)", shares.batch(due), OUTSIDE);
        DUE.is(name + "run(1, 0)", shares.run(1, 0), 0);
        DUE.is(name + "told(5)", shares.told(5), due);
    }

    // (1, if they are below that ..
    private static void promise1OneIfBelow() {
        sharesAre(0, 1);
        sharesAre(-1, 1);
        sharesAre(-64, 1);
        sharesAre(Integer.MIN_VALUE, 1);
    }

    // .. 64, if above)
    private static void promise1SixtyFourIfAbove() {
        sharesAre(65, 64);
        sharesAre(128, 64);
        sharesAre(Integer.MAX_VALUE, 64);
    }

    // So many shares
    private static void promise1AsManyAsAsked() {
        for (int count = 1; count <= 64; count++) {
            sharesAre(count, count);
        }
    }

    // no failures
    private static void promise1NoFailures() {
        StageShares shares = new StageShares(64);
        DUE.is("told(6) of a new object", shares.told(6), 0);
        for (int worker = 0; worker < 16; worker++) {
            DUE.is("run of a new object", shares.run(worker + 1, worker), 0);
            DUE.is("told(2) of a new object", shares.told(2), 0);
        }
        DUE.is("fail(0, 0) of a new object", shares.fail(0, 0), 1);
    }

    // nothing run: all results are 0
    private static void promise1NothingRun() {
        StageShares shares = new StageShares(64);
        for (int share = 0; share < 64; share++) {
            DUE.is("result(" + share + ") of a new object", shares.result(share), 0);
            DUE.is("times(" + share + ") of a new object", shares.times(share), NONE);
            DUE.is("doneBy(" + share + ") of a new object", shares.doneBy(share), NONE);
        }
        DUE.told("new", shares, 0, 0, 0, 0, 0, 0, 0);
        DUE.is("joined() of a new object", shares.joined(), 0);
    }

    // A share has another VALUE: 1.
    private static void promise2AnotherValue() {
        StageShares shares = new StageShares(1);
        DUE.is("value(0, 0), as it had", shares.value(0, 0), 1);
        DUE.is("value(0, max)", shares.value(0, Long.MAX_VALUE), 1);
        DUE.is("value(0, min)", shares.value(0, Long.MIN_VALUE), 1);
        DUE.is("plain(), the latest", shares.plain(), Long.MIN_VALUE + 64 * 31);
        shares.leave(0, true);
        DUE.is("value(0, 1), left out", shares.value(0, 1), 1);
        shares.leave(0, false);
        DUE.is("plain(), given while left out", shares.plain(), 3999);
    }

    // OUTSIDE.
    private static void promise2Outside() {
        StageShares shares = new StageShares(5);
        DUE.is("value(5)", shares.value(5, 1), OUTSIDE);
        DUE.is("value(-1)", shares.value(-1, 1), OUTSIDE);
        for (int far : FAR) {
            DUE.is("value(" + far + ")", shares.value(far, 1), OUTSIDE);
        }
    }

    // how many it had
    private static void promise3HowManyItHad() {
        StageShares shares = new StageShares(2);
        for (int n = 1; n <= 20; n++) {
            DUE.is("steps(0, " + n + ")", shares.steps(0, n), Math.max(1, n - 1));
            DUE.is("steps(0, " + n + ") again", shares.steps(0, n), n);
        }
        DUE.is("steps(1, 1), its own", shares.steps(1, 1), 1);
    }

    // OUTSIDE.
    private static void promise3Outside() {
        StageShares shares = new StageShares(5);
        DUE.is("steps(5, 2)", shares.steps(5, 2), OUTSIDE);
        DUE.is("steps(-1, 2)", shares.steps(-1, 2), OUTSIDE);
        DUE.is("steps(4, 0)", shares.steps(4, 0), OUTSIDE);
        DUE.is("steps(4, 21)", shares.steps(4, 21), OUTSIDE);
        DUE.is("steps(4, -1)", shares.steps(4, -1), OUTSIDE);
        for (int far : FAR) {
            DUE.is("steps(" + far + ", 2)", shares.steps(far, 2), OUTSIDE);
            DUE.is("steps(4, " + far + ")", shares.steps(4, far), OUTSIDE);
        }
        DUE.is("steps(4, 20)", shares.steps(4, 20), 1);
    }

    // 0 if it did
    private static void promise4ZeroIfItDid() {
        StageShares shares = new StageShares(2);
        for (int region = 0; region < 16; region++) {
            DUE.is("touch(0, " + region + ")", shares.touch(0, region), 1);
        }
        for (int region = 0; region < 16; region++) {
            DUE.is("touch(0, " + region + ") again", shares.touch(0, region), 0);
            DUE.is("touch(1, " + region + "), its own", shares.touch(1, region), 1);
        }
    }

    // OUTSIDE.
    private static void promise4Outside() {
        StageShares shares = new StageShares(5);
        DUE.is("touch(5, 0)", shares.touch(5, 0), OUTSIDE);
        DUE.is("touch(-1, 0)", shares.touch(-1, 0), OUTSIDE);
        DUE.is("touch(4, 16)", shares.touch(4, 16), OUTSIDE);
        DUE.is("touch(4, -1)", shares.touch(4, -1), OUTSIDE);
        DUE.is("touch(4, 31)", shares.touch(4, 31), OUTSIDE);
        DUE.is("touch(4, 32)", shares.touch(4, 32), OUTSIDE);
        for (int far : FAR) {
            DUE.is("touch(" + far + ", 0)", shares.touch(far, 0), OUTSIDE);
            DUE.is("touch(4, " + far + ")", shares.touch(4, far), OUTSIDE);
        }
        DUE.is("touch(4, 0)", shares.touch(4, 0), 1);
        DUE.is("touch(4, 15)", shares.touch(4, 15), 1);
    }

    // 1 if that changes it, else 0
    private static void promise5OneIfThatChangesIt() {
        StageShares shares = new StageShares(2);
        DUE.is("leave(0, false), it is not", shares.leave(0, false), 0);
        DUE.is("leave(0, true)", shares.leave(0, true), 1);
        DUE.is("leave(0, true), it is", shares.leave(0, true), 0);
        DUE.is("leave(1, false), its own", shares.leave(1, false), 0);
        DUE.is("leave(0, false)", shares.leave(0, false), 1);
        DUE.is("leave(0, false), it is not any more", shares.leave(0, false), 0);
    }

    // OUTSIDE: the share.
    private static void promise5Outside() {
        StageShares shares = new StageShares(5);
        DUE.is("leave(5, true)", shares.leave(5, true), OUTSIDE);
        DUE.is("leave(5, false)", shares.leave(5, false), OUTSIDE);
        DUE.is("leave(-1, true)", shares.leave(-1, true), OUTSIDE);
        DUE.is("leave(-1, false)", shares.leave(-1, false), OUTSIDE);
        for (int far : FAR) {
            DUE.is("leave(" + far + ", true)", shares.leave(far, true), OUTSIDE);
        }
    }

    // How many batches there are now.
    private static void promise6HowManyBatches() {
        StageShares shares = new StageShares(64);
        for (int share = 0; share < 64; share++) {
            shares.touch(share, 0);
            // The shares that touch nothing yet are in batch 0, too.
            DUE.is("batches(), " + (share + 1) + " touch 0", shares.batches(), share + 1);
        }
        DUE.is("run(1, 0)", shares.run(1, 0), 0);
        shares.leave(63, true);
        DUE.is("batches() now, not those of the run", shares.batches(), 63);
    }

    // How many batches there are, when all shares are left out
    private static void promise6AllLeftOut() {
        StageShares shares = new StageShares(2);
        shares.leave(0, true);
        DUE.is("batches(), one is left out", shares.batches(), 1);
        shares.leave(1, true);
        DUE.is("batches(), all are left out", shares.batches(), 0);
        shares.leave(0, false);
        DUE.is("batches(), one is back", shares.batches(), 1);
    }

    // NONE if it is left out
    private static void promise7None() {
        StageShares shares = new StageShares(2);
        shares.run(1, 0);
        shares.leave(1, true);
        DUE.is("batch(1), left out", shares.batch(1), NONE);
        DUE.is("batch(0), not left out", shares.batch(0), 0);
        shares.leave(0, true);
        DUE.is("batch(0), all are left out", shares.batch(0), NONE);
        shares.leave(1, false);
        DUE.is("batch(1), back", shares.batch(1), 0);
    }

    // OUTSIDE.
    private static void promise7Outside() {
        StageShares shares = new StageShares(5);
        DUE.is("batch(5)", shares.batch(5), OUTSIDE);
        DUE.is("batch(-1)", shares.batch(-1), OUTSIDE);
        for (int far : FAR) {
            DUE.is("batch(" + far + ")", shares.batch(far), OUTSIDE);
        }
    }

    // how many are
    private static void promise8HowManyAre() {
        StageShares shares = new StageShares(64);
        DUE.is("fail(0, 0)", shares.fail(0, 0), 1);
        DUE.is("fail(15, 63)", shares.fail(15, 63), 2);
        DUE.is("fail(0, 63)", shares.fail(0, 63), 3);
        DUE.is("fail(15, 0)", shares.fail(15, 0), 4);
        // 32 shares apart: alike, if shares were told in 32 bits.
        DUE.is("fail(0, 32)", shares.fail(0, 32), 5);
        shares.leave(7, true);
        DUE.is("fail(0, 7), a share left out", shares.fail(0, 7), 6);
    }

    // 0 if it is told already
    private static void promise8ZeroIfToldAlready() {
        StageShares shares = new StageShares(64);
        shares.fail(3, 63);
        DUE.is("fail(3, 63) again", shares.fail(3, 63), 0);
        DUE.is("told(6), still one", shares.told(6), 1);
        DUE.is("fail(3, 62), another share", shares.fail(3, 62), 2);
        DUE.is("fail(2, 63), another worker", shares.fail(2, 63), 3);
    }

    // OUTSIDE
    private static void promise8Outside() {
        StageShares shares = new StageShares(5);
        DUE.is("fail(16, 0)", shares.fail(16, 0), OUTSIDE);
        DUE.is("fail(-1, 0)", shares.fail(-1, 0), OUTSIDE);
        DUE.is("fail(0, 5)", shares.fail(0, 5), OUTSIDE);
        DUE.is("fail(0, -1)", shares.fail(0, -1), OUTSIDE);
        for (int far : FAR) {
            DUE.is("fail(" + far + ", 0)", shares.fail(far, 0), OUTSIDE);
            DUE.is("fail(0, " + far + ")", shares.fail(0, far), OUTSIDE);
        }
        DUE.is("fail(0, 0)", shares.fail(0, 0), 1);
    }

    private static StageShares withTwentyFailures() {
        StageShares shares = new StageShares(64);
        for (int share = 0; share < 20; share++) {
            DUE.is("fail number " + share, shares.fail(share % 16, share), share + 1);
        }
        return shares;
    }

    // FULL: there are 20
    private static void promise8Full() {
        StageShares shares = withTwentyFailures();
        DUE.is("fail(0, 63), there are 20", shares.fail(0, 63), FULL);
        DUE.is("fail(15, 0), there are 20", shares.fail(15, 0), FULL);
        DUE.is("told(6)", shares.told(6), 20);
        DUE.is("fail(0, 0), told already", shares.fail(0, 0), 0);
        DUE.is("fail(3, 19), told already", shares.fail(3, 19), 0);
    }

    // the first that fits: OUTSIDE .., FULL
    private static void promise8OutsideBeforeFull() {
        StageShares shares = withTwentyFailures();
        DUE.is("fail(16, 63), there are 20", shares.fail(16, 63), OUTSIDE);
        DUE.is("fail(-1, 63), there are 20", shares.fail(-1, 63), OUTSIDE);
        DUE.is("fail(0, 64), there are 20", shares.fail(0, 64), OUTSIDE);
        DUE.is("fail(0, -1), there are 20", shares.fail(0, -1), OUTSIDE);
    }

    // FULL: there are 20, and no more so when one has come
    private static void promise8RoomAgain() {
        StageShares shares = withTwentyFailures();
        DUE.is("run(1, 0), one comes", shares.run(1, 0), -1);
        DUE.is("told(6)", shares.told(6), 19);
        DUE.is("fail(0, 63), there are 19", shares.fail(0, 63), 20);
        DUE.is("fail(0, 0), there are 20", shares.fail(0, 0), FULL);
    }

    // OUTSIDE: workers are not 1 .. 16.
    private static void promise9Outside() {
        StageShares shares = new StageShares(5);
        DUE.is("run(0)", shares.run(0, 0), OUTSIDE);
        DUE.is("run(17)", shares.run(17, 0), OUTSIDE);
        DUE.is("run(-1)", shares.run(-1, 0), OUTSIDE);
        for (int far : FAR) {
            DUE.is("run(" + far + ")", shares.run(far, 0), OUTSIDE);
        }
        DUE.is("times(0), nothing was run", shares.times(0), NONE);
    }

    // workers are .. 1 .. 16
    private static void promise9OneToSixteen() {
        StageShares shares = new StageShares(5);
        for (int workers = 1; workers <= 16; workers++) {
            DUE.is("run(" + workers + ")", shares.run(workers, 0), 0);
            DUE.is("told(3) of " + workers, shares.told(3), workers);
        }
    }

    // Of the latest run, when nothing was run
    private static void promise10NothingRun() {
        StageShares shares = new StageShares(5);
        shares.run(17, 0);
        shares.fail(0, 0);
        DUE.told("nothing run", shares, 0, 0, 0, 0, 0, 0, 1);
    }

    // 1 steps that were made (lost ones, too)
    private static void promise10LostStepsToo() {
        StageShares shares = new StageShares(1);
        shares.steps(0, 20);
        shares.fail(0, 0);
        shares.run(1, 0);
        DUE.is("told(1), all are lost", shares.told(1), 19);
    }

    // 5 shares that were begun in all (again and again)
    private static void promise10AgainAndAgain() {
        StageShares shares = new StageShares(1);
        for (int worker = 0; worker < 15; worker++) {
            shares.fail(worker, 0);
        }
        // With this seed worker 15 takes it only when all others have failed.
        DUE.is("run(16, 3)", shares.run(16, 3), 0);
        DUE.told("begun by all", shares, 90, 1, 15, 1, 1, 16, 0);
        DUE.is("times(0)", shares.times(0), 16);
        DUE.is("doneBy(0)", shares.doneBy(0), 15);
    }

    // 6 failures that are told now
    private static void promise10FailuresToldNow() {
        StageShares shares = new StageShares(2);
        shares.run(1, 0);
        shares.fail(0, 0);
        shares.fail(0, 1);
        DUE.told("told after the run", shares, 4, 2, 0, 1, 1, 2, 2);
        shares.run(1, 0);
        DUE.told("one has come", shares, 2, 0, 1, 0, 0, 1, 1);
    }

    // OUTSIDE.
    private static void promise10Outside() {
        StageShares shares = new StageShares(5);
        for (int time = 0; time < 2; time++) {
            DUE.is("told(7)", shares.told(7), OUTSIDE);
            DUE.is("told(-1)", shares.told(-1), OUTSIDE);
            for (int far : FAR) {
                DUE.is("told(" + far + ")", shares.told(far), OUTSIDE);
            }
            shares.run(1, 0);
        }
    }

    // NONE if it was left out then
    private static void promise11NoneIfLeftOutThen() {
        StageShares shares = new StageShares(2);
        shares.leave(0, true);
        shares.run(1, 0);
        DUE.is("times(0), left out", shares.times(0), NONE);
        shares.leave(0, false);
        shares.leave(1, true);
        DUE.is("times(0), left out then", shares.times(0), NONE);
        DUE.is("times(1), left out now", shares.times(1), 1);
        shares.run(1, 0);
        DUE.is("times(0), not left out then", shares.times(0), 1);
        DUE.is("times(1), left out in the latest run", shares.times(1), NONE);
    }

    // or nothing was run (since clear())
    private static void promise11NoneIfNothingWasRun() {
        StageShares shares = new StageShares(1);
        DUE.is("times(0), nothing was run", shares.times(0), NONE);
        shares.run(0, 0);
        DUE.is("times(0), a run was refused", shares.times(0), NONE);
        shares.run(1, 0);
        DUE.is("times(0), it was begun", shares.times(0), 1);
        shares.clear();
        DUE.is("times(0), nothing since clear()", shares.times(0), NONE);
    }

    // How often a share was begun in the latest run
    private static void promise11ZeroIfItWaitedOnly() {
        StageShares shares = new StageShares(2);
        shares.run(1, 0);
        shares.touch(0, 1);
        shares.touch(1, 1);
        shares.fail(0, 0);
        DUE.is("run(1, 0)", shares.run(1, 0), -1);
        DUE.is("times(0), lost", shares.times(0), 1);
        DUE.is("times(1), its batch never came", shares.times(1), 0);
    }

    // OUTSIDE.
    private static void promise11Outside() {
        StageShares shares = new StageShares(5);
        for (int time = 0; time < 2; time++) {
            DUE.is("times(5)", shares.times(5), OUTSIDE);
            DUE.is("times(-1)", shares.times(-1), OUTSIDE);
            for (int far : FAR) {
                DUE.is("times(" + far + ")", shares.times(far), OUTSIDE);
            }
            shares.run(1, 0);
        }
    }

    // NONE if it was not done
    private static void promise12NoneIfNotDone() {
        StageShares shares = new StageShares(3);
        shares.run(1, 0);
        DUE.is("doneBy(2), by worker 0", shares.doneBy(2), 0);
        shares.fail(0, 1);
        shares.leave(0, true);
        DUE.is("run(1, 0)", shares.run(1, 0), -1);
        DUE.is("doneBy(0), left out", shares.doneBy(0), NONE);
        DUE.is("doneBy(1), its worker failed", shares.doneBy(1), NONE);
        DUE.is("doneBy(2), it waited only", shares.doneBy(2), NONE);
    }

    // or nothing was run
    private static void promise12NoneIfNothingWasRun() {
        StageShares shares = new StageShares(1);
        DUE.is("doneBy(0), nothing was run", shares.doneBy(0), NONE);
        shares.run(17, 0);
        DUE.is("doneBy(0), a run was refused", shares.doneBy(0), NONE);
        shares.run(1, 0);
        DUE.is("doneBy(0), by worker 0", shares.doneBy(0), 0);
        shares.clear();
        DUE.is("doneBy(0), nothing since clear()", shares.doneBy(0), NONE);
    }

    // OUTSIDE.
    private static void promise12Outside() {
        StageShares shares = new StageShares(5);
        for (int time = 0; time < 2; time++) {
            DUE.is("doneBy(5)", shares.doneBy(5), OUTSIDE);
            DUE.is("doneBy(-1)", shares.doneBy(-1), OUTSIDE);
            for (int far : FAR) {
                DUE.is("doneBy(" + far + ")", shares.doneBy(far), OUTSIDE);
            }
            shares.run(1, 0);
        }
    }

    // 0 before one
    private static void promise13ZeroBeforeOne() {
        StageShares shares = new StageShares(2);
        shares.value(0, 1);
        shares.value(1, 1);
        DUE.is("result(0), nothing was run", shares.result(0), 0);
        shares.run(0, 0);
        DUE.is("result(0), a run was refused", shares.result(0), 0);
        shares.fail(0, 1);
        DUE.is("run(1, 0)", shares.run(1, 0), -1);
        DUE.is("result(0), a run ended with -1", shares.result(0), 0);
        shares.leave(0, true);
        DUE.is("run(1, 0)", shares.run(1, 0), 0);
        DUE.is("result(0), it was left out", shares.result(0), 0);
        DUE.is("result(1), it was not", shares.result(1), 3999);
    }

    // by the latest run that ended with 0
    private static void promise13LatestRunThatEndedWith0() {
        StageShares shares = new StageShares(1);
        shares.value(0, 1);
        shares.run(1, 0);
        shares.value(0, 2);
        DUE.is("result(0), by the run", shares.result(0), 3999);
        shares.fail(0, 0);
        shares.run(1, 0);
        DUE.is("result(0), the later ended with -1", shares.result(0), 3999);
        shares.run(1, 0);
        DUE.is("result(0), the latest", shares.result(0), 7998);
    }

    // in which it was not left out
    private static void promise13InWhichItWasNotLeftOut() {
        StageShares shares = new StageShares(2);
        shares.value(0, 1);
        shares.run(1, 0);
        shares.leave(0, true);
        shares.value(0, 2);
        DUE.is("result(0), left out now", shares.result(0), 3999);
        shares.run(1, 0);
        DUE.is("result(0), left out in the latest", shares.result(0), 3999);
        shares.leave(1, true);
        shares.run(1, 0);
        DUE.is("result(0), all left out in the latest", shares.result(0), 3999);
    }

    // also 0 for no such share
    private static void promise13NoSuchShare() {
        StageShares shares = new StageShares(5);
        for (int share = 0; share < 5; share++) {
            shares.value(share, 1);
        }
        shares.run(1, 0);
        DUE.is("result(4)", shares.result(4), 3999);
        DUE.is("result(5)", shares.result(5), 0);
        DUE.is("result(-1)", shares.result(-1), 0);
        for (int far : FAR) {
            DUE.is("result(" + far + ")", shares.result(far), 0);
        }
    }

    // of those that are not left out now
    private static void promise14NotLeftOutNow() {
        StageShares shares = new StageShares(2);
        shares.value(0, 1);
        shares.value(1, 2);
        shares.leave(0, true);
        shares.run(1, 0);
        shares.leave(0, false);
        DUE.is("joined(), 0 was left out: its result is 0", shares.joined(), 7998);
        shares.run(1, 0);
        shares.leave(1, true);
        DUE.is("joined(), 1 is left out", shares.joined(), 3999);
        shares.leave(0, true);
        DUE.is("joined(), all are left out", shares.joined(), 0);
        shares.leave(0, false);
        shares.leave(1, false);
        DUE.is("joined(), none is left out", shares.joined(), (3999 << 5) ^ 7998);
    }

    // worked out here and now
    private static void promise15HereAndNow() {
        StageShares shares = new StageShares(1);
        shares.value(0, 1);
        DUE.is("plain(), nothing was run", shares.plain(), 3999);
        shares.run(1, 0);
        shares.value(0, 2);
        DUE.is("plain(), not by the run", shares.plain(), 7998);
        shares.fail(0, 0);
        shares.run(1, 0);
        DUE.is("plain(), a run ended with -1", shares.plain(), 7998);
        DUE.is("result(0), not by plain()", shares.result(0), 3999);
    }

    // THE JOIN .. (for each share that is not left out)
    private static void promise15LeftOut() {
        StageShares shares = new StageShares(2);
        shares.value(0, 1);
        shares.value(1, 2);
        shares.leave(1, true);
        DUE.is("plain(), 1 is left out", shares.plain(), 3999);
        shares.leave(0, true);
        DUE.is("plain(), all are left out", shares.plain(), 0);
        shares.leave(1, false);
        DUE.is("plain(), 0 is left out", shares.plain(), 7998);
    }

    // No regions, values, failures, results: as at first.
    private static void promise16AsAtFirst() {
        StageShares shares = new StageShares(2);
        used(shares);
        shares.clear();
        DUE.is("plain(), no values", shares.plain(), 0);
        DUE.is("joined(), no results", shares.joined(), 0);
        DUE.is("batches(), no regions", shares.batches(), 1);
        DUE.is("told(6), no failures", shares.told(6), 0);
        for (int share = 0; share < 2; share++) {
            DUE.is("result(" + share + ")", shares.result(share), 0);
            DUE.is("batch(" + share + ")", shares.batch(share), 0);
            DUE.is("leave(" + share + ", false)", shares.leave(share, false), 0);
            DUE.is("touch(" + share + ", 15)", shares.touch(share, 15), 1);
            DUE.is("steps(" + share + ", 1)", shares.steps(share, 1), 1);
        }
        DUE.is("value(1), shares are as many", shares.value(1, 0), 1);
        DUE.is("value(2), shares are no more", shares.value(2, 0), OUTSIDE);
    }

    /** Both shares are in every way other than at first, and were run. */
    private static void used(StageShares shares) {
        for (int share = 0; share < 2; share++) {
            shares.value(share, share + 1);
            shares.steps(share, 20);
            shares.touch(share, 15);
            shares.run(2, 0);
            shares.fail(0, share);
            shares.leave(share, share == 1);
        }
    }

    // nothing was run (since clear())
    private static void promise16NothingWasRun() {
        StageShares shares = new StageShares(2);
        used(shares);
        shares.clear();
        DUE.told("cleared", shares, 0, 0, 0, 0, 0, 0, 0);
        DUE.is("times(0), cleared", shares.times(0), NONE);
        DUE.is("doneBy(0), cleared", shares.doneBy(0), NONE);
    }

    // No .. failures
    private static void promise16RoomForFailures() {
        StageShares shares = withTwentyFailures();
        shares.clear();
        DUE.is("run(1, 0), none comes", shares.run(1, 0), 0);
        for (int share = 0; share < 20; share++) {
            DUE.is("fail number " + share + ", cleared", shares.fail(share % 16, share), share + 1);
        }
        DUE.is("fail(0, 63), there are 20", shares.fail(0, 63), FULL);
    }

    // as at first, when it is so already
    private static void promise16ANewObject() {
        StageShares shares = new StageShares(64);
        shares.clear();
        shares.clear();
        DUE.is("batch(63)", shares.batch(63), 0);
        DUE.is("batch(64)", shares.batch(64), OUTSIDE);
        DUE.is("run(1, 0)", shares.run(1, 0), 0);
        DUE.told("as if new", shares, 128, 64, 0, 1, 1, 64, 0);
    }
}
