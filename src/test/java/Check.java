/** Counts and prints the answers of a test that are not the ones that are due. */
final class Check {
    static final String NOTHING = "nothing thrown";
    static final String ARGUMENT = "IllegalArgumentException";
    static final String BOUNDS = "IndexOutOfBoundsException";
    static final String UNSUPPORTED = "UnsupportedOperationException";
    static final String STATE = "IllegalStateException";

    private final String test;
    private int looked;
    private int wrong;

    Check(String test) {
        this.test = test;
    }

    void due(String what, long got, long want) {
        looked++;
        if (got != want) {
            wrong++;
            System.out.println(test + ": " + what + " answered " + got + ", due is " + want);
        }
    }

    void due(String what, String got, String want) {
        looked++;
        if (!got.equals(want)) {
            wrong++;
            System.out.println(test + ": " + what + " answered " + got + ", due is " + want);
        }
    }

    void argument(String what, Runnable call) {
        due(what, thrownBy(call), ARGUMENT);
    }

    void bounds(String what, Runnable call) {
        due(what, thrownBy(call), BOUNDS);
    }

    void unsupported(String what, Runnable call) {
        due(what, thrownBy(call), UNSUPPORTED);
    }

    void state(String what, Runnable call) {
        due(what, thrownBy(call), STATE);
    }

    /** The name of what a call throws, or that it throws nothing. */
    static String thrownBy(Runnable call) {
        try {
            call.run();
        } catch (RuntimeException e) {
            return e.getClass().getSimpleName();
        }
        return NOTHING;
    }

    /** The blocks of the lines of a set, by ways, as a text. */
    static String set(CacheLadder x, int tier, int set, int ways) {
        StringBuilder blocks = new StringBuilder();
        for (int way = 0; way < ways; way++) {
            blocks.append(way == 0 ? "" : " ").append(x.line(tier, set, way));
        }
        return blocks.toString();
    }

    /** The six counts of a tier, as a text. */
    static String counts(CacheLadder x, int tier) {
        StringBuilder counts = new StringBuilder();
        for (int what = 0; what < 6; what++) {
            counts.append(what == 0 ? "" : " ").append(x.count(tier, what));
        }
        return counts.toString();
    }

    /** The store's loads and stores, as a text. */
    static String traffic(CacheLadder x) {
        return x.traffic(false) + " " + x.traffic(true);
    }

    void end() {
        System.out.println(test + ": " + looked + " answers looked at, " + wrong + " not as due");
        if (wrong > 0) {
            System.exit(1);
        }
    }
}
