/**
 * Shares of work that workers do in ticks, in an order that hangs on a seed.
 * Whatever the order and whoever fails, what comes of the shares, joined by
 * their numbers, is what one worker alone makes of them.
 */
public final class StageShares {
    public static final int NONE = -1;
    public static final int OUTSIDE = -3;
    public static final int FULL = -4;

    private static final int MOST_SHARES = 64;
    private static final int MOST_STEPS = 20;
    private static final int MOST_REGIONS = 16;
    private static final int MOST_WORKERS = 16;
    private static final int MOST_FAILURES = 20;
    private static final int MOST_TICKS = 20000;

    private static final int ALL_DONE = 0;
    private static final int NO_WORKER_LIVE = -1;
    private static final int TOO_MANY_TICKS = -2;

    private static final int FAILURES_NOW = 6;

    private final Work work;
    private final Batches grouping;
    private final Failures failures;
    private final Course latest;
    private final long[] results;

    public StageShares(int shares) {
        int count = Math.max(1, Math.min(shares, MOST_SHARES));
        work = new Work(count);
        grouping = new Batches(count);
        failures = new Failures();
        latest = new Course(work, grouping, failures);
        results = new long[count];
    }

    public int value(int share, long v) {
        if (!work.has(share)) {
            return OUTSIDE;
        }
        work.values[share] = v;
        return 1;
    }

    public int steps(int share, int n) {
        if (!work.has(share) || n < 1 || n > MOST_STEPS) {
            return OUTSIDE;
        }
        int before = work.stepCounts[share];
        work.stepCounts[share] = n;
        return before;
    }

    public int touch(int share, int region) {
        if (!work.has(share) || region < 0 || region >= MOST_REGIONS) {
            return OUTSIDE;
        }
        int bit = 1 << region;
        if ((work.regions[share] & bit) != 0) {
            return 0;
        }
        work.regions[share] |= bit;
        return 1;
    }

    public int leave(int share, boolean on) {
        if (!work.has(share)) {
            return OUTSIDE;
        }
        if (work.leftOut[share] == on) {
            return 0;
        }
        work.leftOut[share] = on;
        return 1;
    }

    public int batches() {
        grouping.form(work);
        return grouping.count;
    }

    public int batch(int share) {
        if (!work.has(share)) {
            return OUTSIDE;
        }
        grouping.form(work);
        return grouping.batchOf[share];
    }

    public int fail(int worker, int share) {
        if (worker < 0 || worker >= MOST_WORKERS || !work.has(share)) {
            return OUTSIDE;
        }
        // A failure that is told already needs no room, so this comes before FULL.
        if (failures.has(worker, share)) {
            return 0;
        }
        if (failures.count >= MOST_FAILURES) {
            return FULL;
        }
        failures.add(worker, share);
        return failures.count;
    }

    public int run(int workers, long seed) {
        if (workers < 1 || workers > MOST_WORKERS) {
            return OUTSIDE;
        }
        int end = latest.goThrough(workers, seed);
        if (end == ALL_DONE) {
            keepOutcomes();
        }
        return end;
    }

    public int told(int what) {
        return what == FAILURES_NOW ? failures.count : latest.figure(what);
    }

    public int times(int share) {
        return work.has(share) ? latest.begun[share] : OUTSIDE;
    }

    public int doneBy(int share) {
        return work.has(share) ? latest.doers[share] : OUTSIDE;
    }

    public long result(int share) {
        return work.has(share) ? results[share] : 0;
    }

    public long joined() {
        long join = 0;
        for (int share = 0; share < work.count; share++) {
            if (!work.leftOut[share]) {
                join = joinOne(join, results[share]);
            }
        }
        return join;
    }

    public long plain() {
        long join = 0;
        for (int share = 0; share < work.count; share++) {
            if (!work.leftOut[share]) {
                join = joinOne(join, work.madeAlone(share));
            }
        }
        return join;
    }

    public void clear() {
        work.reset();
        failures.reset();
        latest.reset();
        for (int share = 0; share < work.count; share++) {
            results[share] = 0;
        }
    }

    private void keepOutcomes() {
        for (int share = 0; share < work.count; share++) {
            if (!work.leftOut[share]) {
                results[share] = latest.outcomes[share];
            }
        }
    }

    private static long joinOne(long join, long one) {
        return Long.rotateLeft(join, 5) ^ one;
    }

    private static long makeStep(long made, long value, int step) {
        return (Long.rotateLeft(made, 7) ^ value) * 31 + step;
    }

    /** The shares as they have been described; a run reads them and changes nothing here. */
    private static final class Work {
        final int count;
        final long[] values;
        final int[] stepCounts;
        /** One bit for each region that a share touches. */
        final int[] regions;
        final boolean[] leftOut;

        Work(int count) {
            this.count = count;
            values = new long[count];
            stepCounts = new int[count];
            regions = new int[count];
            leftOut = new boolean[count];
            reset();
        }

        void reset() {
            for (int share = 0; share < count; share++) {
                values[share] = 0;
                stepCounts[share] = 1;
                regions[share] = 0;
                leftOut[share] = false;
            }
        }

        boolean has(int share) {
            return share >= 0 && share < count;
        }

        long madeAlone(int share) {
            long made = values[share];
            for (int step = 0; step < stepCounts[share]; step++) {
                made = makeStep(made, values[share], step);
            }
            return made;
        }
    }

    /** Which share is in which batch, as things were when form() was last called. */
    private static final class Batches {
        final int[] batchOf;
        int count;
        /** One bit for each region that a share of the batch touches. */
        private final int[] regions;

        Batches(int shares) {
            batchOf = new int[shares];
            // No more batches than shares: each batch has at least one.
            regions = new int[shares];
        }

        void form(Work work) {
            count = 0;
            for (int share = 0; share < work.count; share++) {
                batchOf[share] = work.leftOut[share] ? NONE : place(work.regions[share]);
            }
        }

        private int place(int touched) {
            int batch = 0;
            while (batch < count && (regions[batch] & touched) != 0) {
                batch++;
            }
            if (batch == count) {
                regions[batch] = 0;
                count++;
            }
            regions[batch] |= touched;
            return batch;
        }
    }

    /** The failures that are told and have not come. */
    private static final class Failures {
        int count;
        /** By worker: one bit for each share, of which there are no more than a long has bits. */
        private final long[] shares;

        Failures() {
            shares = new long[MOST_WORKERS];
        }

        void reset() {
            count = 0;
            for (int worker = 0; worker < MOST_WORKERS; worker++) {
                shares[worker] = 0;
            }
        }

        boolean has(int worker, int share) {
            return (shares[worker] & (1L << share)) != 0;
        }

        void add(int worker, int share) {
            shares[worker] |= 1L << share;
            count++;
        }

        void remove(int worker, int share) {
            shares[worker] &= ~(1L << share);
            count--;
        }
    }

    /** The shares of one batch that wait, the first in front. */
    private static final class WaitingRow {
        private final int[] row;
        private int front;
        private int end;

        WaitingRow(int shares) {
            row = new int[shares];
        }

        /** Answers how many shares the batch has. */
        int fill(Batches grouping, int batch) {
            front = 0;
            end = 0;
            for (int share = 0; share < row.length; share++) {
                if (grouping.batchOf[share] == batch) {
                    row[end] = share;
                    end++;
                }
            }
            return end;
        }

        int takeFirst() {
            if (front >= end) {
                return NONE;
            }
            int share = row[front];
            front++;
            return share;
        }

        void putFirst(int share) {
            // There is room in front: what comes back was taken from there.
            if (front > 0) {
                front--;
                row[front] = share;
            }
        }
    }

    /** The workers of a run: who is live, and how far each is with the share it has. */
    private static final class Crew {
        final int[] shareOf;
        final int[] stepsMade;
        final long[] made;
        int liveCount;
        /** The numbers of the live workers, lowest first. */
        private final int[] live;

        Crew() {
            shareOf = new int[MOST_WORKERS];
            stepsMade = new int[MOST_WORKERS];
            made = new long[MOST_WORKERS];
            live = new int[MOST_WORKERS];
        }

        void gather(int workers) {
            liveCount = workers;
            for (int worker = 0; worker < workers; worker++) {
                live[worker] = worker;
                shareOf[worker] = NONE;
            }
        }

        int liveAt(int place) {
            return live[place];
        }

        void give(int worker, int share, long value) {
            shareOf[worker] = share;
            stepsMade[worker] = 0;
            made[worker] = value;
        }

        void dropAt(int place) {
            liveCount--;
            for (int later = place; later < liveCount; later++) {
                live[later] = live[later + 1];
            }
        }
    }

    /** The latest run: how it goes while it lasts, and what is told of it afterwards. */
    private static final class Course {
        /** By share: how often it was begun; NONE if it was left out or nothing was run. */
        final int[] begun;
        final int[] doers;
        /** By share: what the run made of it; of no worth unless the run ended with ALL_DONE. */
        final long[] outcomes;

        private final Work work;
        private final Batches grouping;
        private final Failures failures;
        private final WaitingRow waiting;
        private final Crew crew;
        private long x;
        private int undone;

        private int ticks;
        private int steps;
        private int failed;
        private int batchesDone;
        private int begunInAll;

        Course(Work work, Batches grouping, Failures failures) {
            this.work = work;
            this.grouping = grouping;
            this.failures = failures;
            begun = new int[work.count];
            doers = new int[work.count];
            outcomes = new long[work.count];
            waiting = new WaitingRow(work.count);
            crew = new Crew();
            reset();
        }

        void reset() {
            crew.gather(0);
            ticks = 0;
            steps = 0;
            failed = 0;
            batchesDone = 0;
            begunInAll = 0;
            for (int share = 0; share < work.count; share++) {
                begun[share] = NONE;
                doers[share] = NONE;
            }
        }

        int figure(int what) {
            switch (what) {
                case 0: return ticks;
                case 1: return steps;
                case 2: return failed;
                case 3: return crew.liveCount;
                case 4: return batchesDone;
                case 5: return begunInAll;
                default: return OUTSIDE;
            }
        }

        int goThrough(int workers, long seed) {
            start(workers, seed);
            for (int batch = 0; batch < grouping.count; batch++) {
                int end = doBatch(batch);
                if (end != ALL_DONE) {
                    return end;
                }
                batchesDone++;
            }
            return ALL_DONE;
        }

        private void start(int workers, long seed) {
            reset();
            crew.gather(workers);
            x = seed;
            grouping.form(work);
            for (int share = 0; share < work.count; share++) {
                if (!work.leftOut[share]) {
                    begun[share] = 0;
                }
            }
        }

        private int doBatch(int batch) {
            undone = waiting.fill(grouping, batch);
            while (undone > 0 && crew.liveCount > 0 && ticks < MOST_TICKS) {
                ticks++;
                act(choosePlace(crew.liveCount));
            }
            if (undone == 0) {
                return ALL_DONE;
            }
            // Without a live worker no further tick could come, so this goes before the limit.
            return crew.liveCount == 0 ? NO_WORKER_LIVE : TOO_MANY_TICKS;
        }

        private int choosePlace(int liveCount) {
            x = x * 6364136223846793005L + 1442695040888963407L;
            return (int) ((x >>> 33) % liveCount);
        }

        private void act(int place) {
            int worker = crew.liveAt(place);
            int share = crew.shareOf[worker];
            if (share == NONE) {
                begin(worker);
                return;
            }
            boolean isLast = crew.stepsMade[worker] + 1 >= work.stepCounts[share];
            if (isLast && failures.has(worker, share)) {
                breakDown(place, worker, share);
                return;
            }
            goOn(worker, share);
            if (isLast) {
                finish(worker, share);
            }
        }

        private void begin(int worker) {
            int share = waiting.takeFirst();
            if (share == NONE) {
                return;
            }
            crew.give(worker, share, work.values[share]);
            begun[share]++;
            begunInAll++;
        }

        private void goOn(int worker, int share) {
            crew.made[worker] = makeStep(crew.made[worker], work.values[share], crew.stepsMade[worker]);
            crew.stepsMade[worker]++;
            steps++;
        }

        private void finish(int worker, int share) {
            outcomes[share] = crew.made[worker];
            doers[share] = worker;
            crew.shareOf[worker] = NONE;
            undone--;
        }

        private void breakDown(int place, int worker, int share) {
            failures.remove(worker, share);
            crew.dropAt(place);
            failed++;
            waiting.putFirst(share);
        }
    }
}
