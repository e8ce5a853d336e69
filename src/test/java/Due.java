/** Counts and prints the answers that are not the ones that are due. */
final class Due {
    private final String test;
    private int wrong = 0;
    private int seen = 0;

    Due(String test) {
        this.test = test;
    }

    void is(String call, long got, long want) {
        seen++;
        if (got != want) {
            wrong++;
            System.out.println(test + ": " + call + " answered " + got + ", due is " + want);
        }
    }

    /** told(0) .. told(6), in their order. */
    void told(String when, StageShares shares, int... want) {
        for (int what = 0; what < want.length; what++) {
            is(when + ": told(" + what + ")", shares.told(what), want[what]);
        }
    }

    /** times() of share 0, 1, .. */
    void times(String when, StageShares shares, int... want) {
        for (int share = 0; share < want.length; share++) {
            is(when + ": times(" + share + ")", shares.times(share), want[share]);
        }
    }

    /** doneBy() of share 0, 1, .. */
    void doers(String when, StageShares shares, int... want) {
        for (int share = 0; share < want.length; share++) {
            is(when + ": doneBy(" + share + ")", shares.doneBy(share), want[share]);
        }
    }

    void end() {
        System.out.println(test + ": " + seen + " answers, " + wrong + " wrong");
        if (wrong != 0) {
            System.exit(1);
        }
    }
}
