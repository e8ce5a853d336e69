/** Promises 6 and 7: batches, batch. */
final class BatchesTest {
    private static final Due DUE = new Due("BatchesTest");

    public static void main(String[] args) {
        firstBatchThatFits();
        allInOne();
        eachItsOwn();
        leftOut();
        outside();
        DUE.end();
    }

    private static void batchesAre(String when, StageShares shares, int... due) {
        int most = -1;
        for (int batch : due) {
            most = Math.max(most, batch);
        }
        DUE.is(when + ": batches()", shares.batches(), most + 1);
        for (int share = 0; share < due.length; share++) {
            DUE.is(when + ": batch(" + share + ")", shares.batch(share), due[share]);
        }
    }

    private static void firstBatchThatFits() {
        StageShares shares = new StageShares(6);
        shares.touch(0, 0);
        shares.touch(1, 0);
        shares.touch(1, 1);
        shares.touch(2, 1);
        shares.touch(3, 1);
        shares.touch(3, 15);
        shares.touch(5, 15);
        // 2 goes back to batch 0; 3 meets 2 in batch 0 and 1 in batch 1.
        batchesAre("first that fits", shares, 0, 1, 0, 2, 0, 0);
        shares.touch(0, 15);
        DUE.is("batch(5), asked before batches()", shares.batch(5), 1);
        batchesAre("as things are now", shares, 0, 1, 0, 2, 0, 1);
        shares.run(3, 9);
        batchesAre("after a run", shares, 0, 1, 0, 2, 0, 1);
    }

    private static void allInOne() {
        StageShares shares = new StageShares(16);
        for (int share = 0; share < 16; share++) {
            shares.touch(share, share);
        }
        batchesAre("no two alike", shares, new int[16]);
    }

    private static void eachItsOwn() {
        StageShares shares = new StageShares(64);
        int[] due = new int[64];
        for (int share = 0; share < 64; share++) {
            shares.touch(share, 15);
            due[share] = share;
        }
        batchesAre("all alike", shares, due);
    }

    private static void leftOut() {
        StageShares shares = new StageShares(3);
        for (int share = 0; share < 3; share++) {
            shares.touch(share, 4);
        }
        shares.leave(0, true);
        batchesAre("0 left out", shares, StageShares.NONE, 0, 1);
        shares.leave(1, true);
        shares.leave(2, true);
        batchesAre("all left out", shares, StageShares.NONE, StageShares.NONE, StageShares.NONE);
        shares.leave(0, false);
        shares.leave(2, false);
        batchesAre("1 left out", shares, 0, StageShares.NONE, 1);
    }

    private static void outside() {
        StageShares shares = new StageShares(3);
        DUE.is("batch(3)", shares.batch(3), StageShares.OUTSIDE);
        DUE.is("batch(-1)", shares.batch(-1), StageShares.OUTSIDE);
        DUE.is("batch(max)", shares.batch(Integer.MAX_VALUE), StageShares.OUTSIDE);
        DUE.is("batch(min)", shares.batch(Integer.MIN_VALUE), StageShares.OUTSIDE);
    }
}
