import java.util.ArrayList;
import java.util.LinkedHashSet;
import java.util.List;
import java.util.Set;
import java.util.TreeSet;

/**
 * The document once more, written in another way than the program: with sets
 * and lists, and results that are worked out after a run, not in its ticks.
 */
final class Model {
    private static final class Share {
        long value;
        int steps;
        Set<Integer> regions = new TreeSet<>();
        boolean leftOut;
        long result;
        int times;
        int doneBy;

        Share() {
            toFirst();
        }

        void toFirst() {
            value = 0;
            steps = 1;
            regions.clear();
            leftOut = false;
            result = 0;
            times = -1;
            doneBy = -1;
        }

        long made() {
            long a = value;
            for (int s = 0; s < steps; s++) {
                a = ((a << 7 | a >>> 57) ^ value) * 31 + s;
            }
            return a;
        }
    }

    private static final class Worker {
        final int number;
        Share share;
        int stepsLeft;

        Worker(int number) {
            this.number = number;
        }
    }

    private final List<Share> shares = new ArrayList<>();
    private final Set<List<Integer>> failures = new LinkedHashSet<>();
    private int[] told = new int[6];

    Model(int count) {
        for (int i = 0; i < (count < 1 ? 1 : count > 64 ? 64 : count); i++) {
            shares.add(new Share());
        }
    }

    private boolean lacks(int share) {
        return share < 0 || share >= shares.size();
    }

    int value(int share, long v) {
        if (lacks(share)) return -3;
        shares.get(share).value = v;
        return 1;
    }

    int steps(int share, int n) {
        if (lacks(share) || n < 1 || n > 20) return -3;
        int had = shares.get(share).steps;
        shares.get(share).steps = n;
        return had;
    }

    int touch(int share, int region) {
        if (lacks(share) || region < 0 || region > 15) return -3;
        return shares.get(share).regions.add(region) ? 1 : 0;
    }

    int leave(int share, boolean on) {
        if (lacks(share)) return -3;
        boolean was = shares.get(share).leftOut;
        shares.get(share).leftOut = on;
        return was == on ? 0 : 1;
    }

    private static boolean meet(Share a, Share b) {
        for (int region : a.regions) {
            if (b.regions.contains(region)) return true;
        }
        return false;
    }

    private static boolean fits(Share share, List<Share> batch) {
        for (Share other : batch) {
            if (meet(share, other)) return false;
        }
        return true;
    }

    private List<List<Share>> grouped() {
        List<List<Share>> all = new ArrayList<>();
        for (Share share : shares) {
            if (share.leftOut) continue;
            List<Share> home = null;
            for (List<Share> batch : all) {
                if (home == null && fits(share, batch)) home = batch;
            }
            if (home == null) {
                home = new ArrayList<>();
                all.add(home);
            }
            home.add(share);
        }
        return all;
    }

    int batches() {
        return grouped().size();
    }

    int batch(int share) {
        if (lacks(share)) return -3;
        List<List<Share>> all = grouped();
        for (int i = 0; i < all.size(); i++) {
            if (all.get(i).contains(shares.get(share))) return i;
        }
        return -1;
    }

    int fail(int worker, int share) {
        if (worker < 0 || worker > 15 || lacks(share)) return -3;
        if (failures.contains(List.of(worker, share))) return 0;
        if (failures.size() == 20) return -4;
        failures.add(List.of(worker, share));
        return failures.size();
    }

    int run(int count, long seed) {
        if (count < 1 || count > 16) return -3;
        List<Worker> live = new ArrayList<>();
        for (int i = 0; i < count; i++) live.add(new Worker(i));
        for (Share share : shares) {
            share.times = share.leftOut ? -1 : 0;
            share.doneBy = -1;
        }
        told = new int[6];
        int end = ticks(live, seed);
        told[3] = live.size();
        for (Share share : shares) {
            if (end == 0 && !share.leftOut) share.result = share.made();
        }
        return end;
    }

    private int ticks(List<Worker> live, long seed) {
        long x = seed;
        for (List<Share> batch : grouped()) {
            List<Share> wait = new ArrayList<>(batch);
            while (!allDone(batch)) {
                if (live.isEmpty()) return -1;
                if (told[0] + 1 > 20000) return -2;
                told[0]++;
                x = x * 6364136223846793005L + 1442695040888963407L;
                Worker worker = live.get((int) Long.remainderUnsigned(x >>> 33, live.size()));
                if (worker.share == null) take(worker, wait);
                else if (worker.stepsLeft == 1 && comes(worker)) {
                    live.remove(worker);
                    told[2]++;
                    wait.add(0, worker.share);
                } else step(worker);
            }
            told[4]++;
        }
        return 0;
    }

    private static boolean allDone(List<Share> batch) {
        for (Share share : batch) {
            if (share.doneBy == -1) return false;
        }
        return true;
    }

    private void take(Worker worker, List<Share> wait) {
        if (wait.isEmpty()) return;
        worker.share = wait.remove(0);
        worker.stepsLeft = worker.share.steps;
        worker.share.times++;
        told[5]++;
    }

    private boolean comes(Worker worker) {
        return failures.remove(List.of(worker.number, shares.indexOf(worker.share)));
    }

    private void step(Worker worker) {
        told[1]++;
        worker.stepsLeft--;
        if (worker.stepsLeft == 0) {
            worker.share.doneBy = worker.number;
            worker.share = null;
        }
    }

    int told(int what) {
        if (what < 0 || what > 6) return -3;
        return what == 6 ? failures.size() : told[what];
    }

    int times(int share) {
        return lacks(share) ? -3 : shares.get(share).times;
    }

    int doneBy(int share) {
        return lacks(share) ? -3 : shares.get(share).doneBy;
    }

    long result(int share) {
        return lacks(share) ? 0 : shares.get(share).result;
    }

    long joined() {
        long j = 0;
        for (Share share : shares) {
            if (!share.leftOut) j = (j << 5 | j >>> 59) ^ share.result;
        }
        return j;
    }

    long plain() {
        long j = 0;
        for (Share share : shares) {
            if (!share.leftOut) j = (j << 5 | j >>> 59) ^ share.made();
        }
        return j;
    }

    void clear() {
        for (Share share : shares) share.toFirst();
        failures.clear();
        told = new int[6];
    }
}
