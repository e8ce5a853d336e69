/** Promises 1 to 5: a new object, value, steps, touch, leave. */
final class SharesTest {
    private static final Due DUE = new Due("SharesTest");

    public static void main(String[] args) {
        promise1HowManyShares();
        promise1NothingRun();
        promise2Value();
        promise3Steps();
        promise4Touch();
        promise5Leave();
        DUE.end();
    }

    private static void countIs(int asked, int due) {
        StageShares shares = new StageShares(asked);
        DUE.is("new(" + asked + ").value(last)", shares.value(due - 1, 1), 1);
        DUE.is("new(" + asked + ").value(beyond)", shares.value(due, 1), StageShares.OUTSIDE);
    }

    private static void promise1HowManyShares() {
        countIs(1, 1);
        countIs(2, 2);
        countIs(63, 63);
        countIs(64, 64);
        countIs(0, 1);
        countIs(-1, 1);
        countIs(Integer.MIN_VALUE, 1);
        countIs(65, 64);
        countIs(Integer.MAX_VALUE, 64);
    }

    private static void promise1NothingRun() {
        StageShares shares = new StageShares(3);
        DUE.told("new", shares, 0, 0, 0, 0, 0, 0, 0);
        for (int share = 0; share < 3; share++) {
            DUE.is("new.result", shares.result(share), 0);
            DUE.is("new.times", shares.times(share), StageShares.NONE);
            DUE.is("new.doneBy", shares.doneBy(share), StageShares.NONE);
            DUE.is("new.batch", shares.batch(share), 0);
        }
        DUE.is("new.joined", shares.joined(), 0);
        DUE.is("new.plain", shares.plain(), 0);
        DUE.is("new.batches", shares.batches(), 1);
    }

    private static void promise2Value() {
        StageShares shares = new StageShares(2);
        DUE.is("value(0, 1)", shares.value(0, 1), 1);
        DUE.is("value(0, 1) again", shares.value(0, 1), 1);
        DUE.is("value(1, min)", shares.value(1, Long.MIN_VALUE), 1);
        DUE.is("value(1, 0)", shares.value(1, 0), 1);
        // ((1 << 7) ^ 1) * 31 for share 0, turned by 5 for the join.
        DUE.is("plain, values 1 and 0", shares.plain(), 3999L << 5);
        DUE.is("value(-1)", shares.value(-1, 5), StageShares.OUTSIDE);
        DUE.is("value(2)", shares.value(2, 5), StageShares.OUTSIDE);
        DUE.is("value(64)", shares.value(64, 5), StageShares.OUTSIDE);
        DUE.is("plain, refusals change nothing", shares.plain(), 3999L << 5);
    }

    private static void promise3Steps() {
        StageShares shares = new StageShares(2);
        DUE.is("steps(0, 20)", shares.steps(0, 20), 1);
        DUE.is("steps(0, 1)", shares.steps(0, 1), 20);
        DUE.is("steps(0, 7)", shares.steps(0, 7), 1);
        DUE.is("steps(0, 0)", shares.steps(0, 0), StageShares.OUTSIDE);
        DUE.is("steps(0, 21)", shares.steps(0, 21), StageShares.OUTSIDE);
        DUE.is("steps(0, -1)", shares.steps(0, -1), StageShares.OUTSIDE);
        DUE.is("steps(2, 3)", shares.steps(2, 3), StageShares.OUTSIDE);
        DUE.is("steps(-1, 3)", shares.steps(-1, 3), StageShares.OUTSIDE);
        DUE.is("steps(0, 7), refusals change nothing", shares.steps(0, 7), 7);
        DUE.is("steps(1, 2), its own", shares.steps(1, 2), 1);
    }

    private static void promise4Touch() {
        StageShares shares = new StageShares(2);
        for (int region = 0; region < 16; region++) {
            DUE.is("touch(0, " + region + ")", shares.touch(0, region), 1);
            DUE.is("touch(0, " + region + ") again", shares.touch(0, region), 0);
        }
        DUE.is("touch(1, 15)", shares.touch(1, 15), 1);
        DUE.is("touch(1, 16)", shares.touch(1, 16), StageShares.OUTSIDE);
        DUE.is("touch(1, 32)", shares.touch(1, 32), StageShares.OUTSIDE);
        DUE.is("touch(1, -1)", shares.touch(1, -1), StageShares.OUTSIDE);
        DUE.is("touch(2, 0)", shares.touch(2, 0), StageShares.OUTSIDE);
        DUE.is("touch(-1, 0)", shares.touch(-1, 0), StageShares.OUTSIDE);
        DUE.is("touch(1, 0), refusals change nothing", shares.touch(1, 0), 1);
    }

    private static void promise5Leave() {
        StageShares shares = new StageShares(2);
        DUE.is("leave(0, false)", shares.leave(0, false), 0);
        DUE.is("leave(0, true)", shares.leave(0, true), 1);
        DUE.is("leave(0, true) again", shares.leave(0, true), 0);
        DUE.is("batch of a share left out", shares.batch(0), StageShares.NONE);
        DUE.is("leave(0, false)", shares.leave(0, false), 1);
        DUE.is("batch of a share back", shares.batch(0), 0);
        DUE.is("leave(2, true)", shares.leave(2, true), StageShares.OUTSIDE);
        DUE.is("leave(-1, false)", shares.leave(-1, false), StageShares.OUTSIDE);
        DUE.is("leave(1, false), its own", shares.leave(1, false), 0);
    }
}
