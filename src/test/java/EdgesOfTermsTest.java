/**
 * The boundary cases of the document's "Terms", one method for each sentence
 * that names one; the sentence stands above its method.
 */
final class EdgesOfTermsTest {
    private static final int NONE = StageShares.NONE;
    private static final int OUTSIDE = StageShares.OUTSIDE;
    private static final long MIN = Long.MIN_VALUE;
    private static final long MAX = Long.MAX_VALUE;
    private static final Due DUE = new Due("EdgesOfTermsTest");

    public static void main(String[] args) {
        sharesAreNumberedFrom0();
        valueIsALong();
        valueIs0AtFirst();
        stepsAre1To20();
        stepsAre1AtFirst();
        regionsAre0To15();
        regionsAreNoneAtFirst();
        resultWraps();
        resultTurnsToTheLeft();
        resultCountsStepsFrom0();
        joinOfNone();
        joinOfOne();
        joinTurnsAllTheWayRound();
        joinPassesOverWhatIsLeftOut();
        batchForAShareWithoutRegions();
        batchIsTheFirstThatFits();
        batchIsNewIfThereIsNoneSuch();
        batchesByNumbers();
        batchesWithoutTheSharesLeftOut();
        DUE.end();
    }

    /** One share, one worker: what a run makes of it, which plain() works out too. */
    private static void resultIs(long value, int steps, long due) {
        StageShares shares = new StageShares(1);
        String call = "value " + value + ", " + steps + " steps: ";
        shares.value(0, value);
        shares.steps(0, steps);
        DUE.is(call + "plain()", shares.plain(), due);
        DUE.is(call + "run()", shares.run(1, 0), 0);
        DUE.is(call + "result(0)", shares.result(0), due);
        DUE.is(call + "joined()", shares.joined(), due);
    }

    // SHARES 0 .. N - 1
    private static void sharesAreNumberedFrom0() {
        StageShares shares = new StageShares(3);
        DUE.is("value(0) of 3", shares.value(0, 1), 1);
        DUE.is("value(2) of 3", shares.value(2, 1), 1);
        DUE.is("value(3) of 3", shares.value(3, 1), OUTSIDE);
        DUE.is("value(-1) of 3", shares.value(-1, 1), OUTSIDE);
    }

    // VALUE (a long ..
    private static void valueIsALong() {
        resultIs(MIN, 2, -9223372036846901311L);
        resultIs(MAX, 2, 9223372036846901282L);
        // These two are alike in their lower 32 bits.
        resultIs(1L << 32, 1, ((1L << 39) ^ (1L << 32)) * 31);
        resultIs(1L << 33, 1, ((1L << 40) ^ (1L << 33)) * 31);
    }

    // .. 0 at first)
    private static void valueIs0AtFirst() {
        StageShares shares = new StageShares(1);
        DUE.is("plain() of value 0, 1 step", shares.plain(), 0);
        shares.steps(0, 3);
        DUE.is("plain() of value 0, 3 steps", shares.plain(), 128 * 31 + 2);
    }

    // STEPS (1 .. 20 ..
    private static void stepsAre1To20() {
        StageShares shares = new StageShares(1);
        DUE.is("steps(0, 20)", shares.steps(0, 20), 1);
        DUE.is("steps(0, 21)", shares.steps(0, 21), OUTSIDE);
        DUE.is("run() of 20 steps", shares.run(1, 0), 0);
        DUE.is("told(1) of 20 steps", shares.told(1), 20);
        DUE.is("steps(0, 1)", shares.steps(0, 1), 20);
        DUE.is("steps(0, 0)", shares.steps(0, 0), OUTSIDE);
        DUE.is("run() of 1 step", shares.run(1, 0), 0);
        DUE.is("told(1) of 1 step", shares.told(1), 1);
    }

    // .. 1 at first)
    private static void stepsAre1AtFirst() {
        StageShares shares = new StageShares(64);
        DUE.is("run() of 64 new shares", shares.run(1, 0), 0);
        DUE.is("told(1) of 64 new shares", shares.told(1), 64);
        DUE.is("steps(0, 5) of a new share", shares.steps(0, 5), 1);
        DUE.is("steps(63, 5) of a new share", shares.steps(63, 5), 1);
    }

    // REGIONS 0 .. 15 that it touches
    private static void regionsAre0To15() {
        for (int region = 0; region < 16; region++) {
            StageShares shares = new StageShares(3);
            shares.touch(0, region);
            shares.touch(1, region);
            shares.touch(2, 15 - region);
            DUE.is("batch(1), both touch " + region, shares.batch(1), 1);
            DUE.is("batch(2), others touch " + region, shares.batch(2), 0);
        }
        StageShares shares = new StageShares(1);
        DUE.is("touch(0, 16)", shares.touch(0, 16), OUTSIDE);
        DUE.is("touch(0, -1)", shares.touch(0, -1), OUTSIDE);
    }

    // (none at first)
    private static void regionsAreNoneAtFirst() {
        StageShares shares = new StageShares(64);
        DUE.is("batches() of 64 new shares", shares.batches(), 1);
        DUE.is("touch(63, 15) of a new share", shares.touch(63, 15), 1);
    }

    // (64 bits, wrapping ..
    private static void resultWraps() {
        resultIs(1, 20, -5658274385187502353L);
        resultIs(-1, 20, 3418634711583057825L);
        resultIs(MAX, 20, -217400298470802775L);
        resultIs(MIN, 20, -177468454806145346L);
        resultIs(0, 20, -6507461409952862613L);
    }

    // .. rotl turns to the left)
    private static void resultTurnsToTheLeft() {
        // The topmost bit comes round to bit 6, and stands at the top by the VALUE.
        resultIs(MIN, 1, MIN + 64 * 31);
        // The seven topmost bits come round to the lowest.
        long seven = 0x7FL << 57;
        resultIs(seven, 1, (0x7FL ^ seven) * 31);
        resultIs(-1, 1, 0);
    }

    // for step s = 0, 1, .. less than its STEPS
    private static void resultCountsStepsFrom0() {
        resultIs(0, 1, 0);
        resultIs(0, 2, 1);
        resultIs(-1, 2, -31 + 1);
    }

    // THE JOIN of results: j = 0
    private static void joinOfNone() {
        StageShares shares = new StageShares(2);
        shares.value(0, 7);
        shares.value(1, 8);
        shares.run(1, 0);
        shares.leave(0, true);
        shares.leave(1, true);
        DUE.is("joined() of none", shares.joined(), 0);
        DUE.is("plain() of none", shares.plain(), 0);
    }

    // j = rotl ( j , 5 ) ^ its result
    private static void joinOfOne() {
        StageShares shares = new StageShares(2);
        shares.value(0, 1);
        shares.value(1, 2);
        shares.run(1, 0);
        shares.leave(1, true);
        DUE.is("joined() of share 0 alone", shares.joined(), 3999);
        DUE.is("plain() of share 0 alone", shares.plain(), 3999);
        shares.leave(1, false);
        shares.leave(0, true);
        DUE.is("joined() of share 1 alone", shares.joined(), 7998);
        DUE.is("plain() of share 1 alone", shares.plain(), 7998);
    }

    // rotl ( j , 5 )
    private static void joinTurnsAllTheWayRound() {
        StageShares shares = new StageShares(14);
        shares.value(0, MIN);
        shares.run(1, 0);
        // 13 turns by 5 are one turn by 1: the topmost bit comes round to the lowest.
        DUE.is("joined(), 13 turns", shares.joined(), 2 * 64 * 31 + 1);
        DUE.is("plain(), 13 turns", shares.plain(), 2 * 64 * 31 + 1);
    }

    // for each share that is not left out
    private static void joinPassesOverWhatIsLeftOut() {
        StageShares shares = new StageShares(3);
        shares.value(0, 1);
        shares.value(1, 7);
        shares.value(2, 2);
        shares.run(1, 0);
        shares.leave(1, true);
        DUE.is("joined(), no turn for 1", shares.joined(), (3999 << 5) ^ 7998);
        DUE.is("plain(), no turn for 1", shares.plain(), (3999 << 5) ^ 7998);
    }

    // of which no share touches a region that it touches
    private static void batchForAShareWithoutRegions() {
        StageShares shares = new StageShares(3);
        for (int region = 0; region < 16; region++) {
            shares.touch(0, region);
            shares.touch(1, region);
        }
        DUE.is("batch(2), it touches none", shares.batch(2), 0);
        DUE.is("batches(), two touch all", shares.batches(), 2);
    }

    // each into the first batch
    private static void batchIsTheFirstThatFits() {
        StageShares shares = new StageShares(4);
        shares.touch(0, 0);
        shares.touch(1, 0);
        shares.touch(2, 0);
        shares.touch(2, 15);
        shares.touch(3, 15);
        // 3 meets 2 in batch 2 alone; batch 0 and batch 1 are both free for it.
        DUE.is("batch(3), 0 and 1 fit", shares.batch(3), 0);
        shares.touch(3, 0);
        DUE.is("batch(3), none fits", shares.batch(3), 3);
    }

    // (a new one, if there is none such)
    private static void batchIsNewIfThereIsNoneSuch() {
        StageShares shares = new StageShares(64);
        for (int share = 0; share < 64; share++) {
            DUE.is("touch(" + share + ", 7)", shares.touch(share, 7), 1);
            DUE.is("batch(" + share + ")", shares.batch(share), share);
        }
        DUE.is("batches(), all touch 7", shares.batches(), 64);
    }

    // by numbers
    private static void batchesByNumbers() {
        StageShares shares = new StageShares(3);
        shares.touch(2, 0);
        shares.touch(1, 0);
        shares.touch(1, 1);
        shares.touch(0, 1);
        DUE.is("batch(0)", shares.batch(0), 0);
        DUE.is("batch(1)", shares.batch(1), 1);
        DUE.is("batch(2)", shares.batch(2), 0);
    }

    // shares that are not left out
    private static void batchesWithoutTheSharesLeftOut() {
        StageShares shares = new StageShares(3);
        for (int share = 0; share < 3; share++) {
            shares.touch(share, 0);
        }
        shares.leave(0, true);
        DUE.is("batch(0), left out", shares.batch(0), NONE);
        DUE.is("batch(1), first now", shares.batch(1), 0);
        DUE.is("batch(2), second now", shares.batch(2), 1);
        DUE.is("batches()", shares.batches(), 2);
    }
}
