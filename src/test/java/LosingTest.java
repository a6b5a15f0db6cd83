/** Promises 9 to 11: flush, empty and crash. */
public final class LosingTest {
    private static final Check check = new Check("LosingTest");
    private static final int THROUGH = 0;
    private static final int BACK = 1;

    public static void main(String[] args) {
        flushOfOneTier();
        flushIsOfTheTierAlone();
        flushGoesBySets();
        flushIsNoUse();
        emptyGoesBySets();
        emptyOfOneTier();
        crashLosesWords();
        crashKeepsCounts();
        check.end();
    }

    private static void flushOfOneTier() {
        CacheLadder x = new CacheLadder();
        x.tier(2, 2, 0, BACK, false);
        x.fill(3, 3, 5, 1);
        check.due("flush(0)", x.flush(0), 3);
        check.due("stored(5)", x.stored(5), 7);
        check.due("lines stay", x.way(0, 0) + x.way(0, 1), 0);
        check.due("clean", x.dirty(0, 0) + x.dirty(0, 1), 0);
        check.due("flush(0) again", x.flush(0), 0);
        check.due("a store each line", Check.traffic(x), "2 2");
        check.due("counts", Check.counts(x, 0), "0 0 0 2 0 3");
        check.bounds("flush(1)", () -> x.flush(1));
        check.bounds("flush(-1)", () -> x.flush(-1));
    }

    private static void flushIsOfTheTierAlone() {
        CacheLadder x = new CacheLadder();
        x.tier(1, 1, 0, BACK, false);
        x.tier(1, 1, 0, BACK, true);
        x.write(0, 5);
        check.due("flush(1) takes nothing from above", x.flush(1), 0);
        check.due("dirty above", x.dirty(0, 0), 1);
        check.due("flush(0)", x.flush(0), 1);
        check.due("dirty below", x.dirty(1, 0), 1);
        check.due("not stored yet", x.stored(0), 0);
        check.due("a write hit below", Check.counts(x, 1), "0 1 1 0 0 0");
        check.due("flush(1)", x.flush(1), 1);
        check.due("stored", x.stored(0), 5);
    }

    /** Blocks 2 and 0 in set 0, 3 and 1 in set 1, all dirty; tier 1 has none of them. */
    private static CacheLadder twoSets() {
        CacheLadder x = new CacheLadder();
        x.tier(2, 2, 0, BACK, false);
        x.tier(1, 3, 0, BACK, false);
        x.fill(8, 4, 1, 1);
        x.fill(0, 4, 1, 1);
        x.fill(12, 4, 1, 1);
        x.fill(4, 4, 1, 1);
        check.due("set 0", Check.set(x, 0, 0, 2), "2 0");
        check.due("set 1", Check.set(x, 0, 1, 2), "3 1");
        check.due("tier 1", Check.set(x, 1, 0, 3), "-1 -1 -1");
        return x;
    }

    private static void flushGoesBySets() {
        CacheLadder x = twoSets();
        check.due("flush(0)", x.flush(0), 16);
        check.due("in the order 2 0 3 1", Check.set(x, 1, 0, 3), "1 0 3");
        check.due("2 went on to the store", x.stored(11), 4);
        check.due("lines stay", Check.set(x, 0, 1, 2), "3 1");
        check.due("flush(1)", x.flush(1), 12);
    }

    private static void flushIsNoUse() {
        CacheLadder x = new CacheLadder();
        x.tier(1, 2, 1, BACK, false);
        x.write(0, 5);
        x.read(4);
        x.flush(0);
        check.due("next after flush", x.next(0, 0), 0);
    }

    private static void emptyGoesBySets() {
        CacheLadder x = twoSets();
        check.due("empty(0)", x.empty(0), 4);
        check.due("in the order 2 0 3 1", Check.set(x, 1, 0, 3), "1 0 3");
        check.due("none stays", Check.set(x, 0, 0, 2), "-1 -1");
        check.due("all of it dirty below", x.dirty(1, 1), 15);
        check.due("counts", Check.counts(x, 0), "0 0 0 4 0 16");
    }

    private static void emptyOfOneTier() {
        CacheLadder x = new CacheLadder();
        x.tier(1, 4, 0, BACK, false);
        x.tier(1, 4, 0, THROUGH, false);
        x.read(0);
        x.write(4, 9);
        check.due("empty(1)", x.empty(1), 2);
        check.due("tier 0 keeps its lines", Check.set(x, 0, 0, 4), "0 1 -1 -1");
        check.due("empty(0)", x.empty(0), 2);
        check.due("no line is chosen", x.count(0, 4) + x.count(1, 4), 0);
        check.due("the dirty word came to tier 1", x.way(1, 1), 0);
        check.due("and to the store", x.stored(4), 9);
        check.due("empty(0) again", x.empty(0), 0);
        check.bounds("empty(2)", () -> x.empty(2));
        check.bounds("empty(-1)", () -> x.empty(-1));
    }

    private static void crashLosesWords() {
        CacheLadder x = new CacheLadder();
        x.tier(1, 2, 0, BACK, false);
        x.tier(1, 4, 0, BACK, false);
        x.fill(0, 12, 1, 1);
        x.write(5, 0);
        check.due("tier 1 has block 0", x.dirty(1, 0), 15);
        check.due("stored(0)", x.stored(0), 0);
        // Eleven words are not 0; word 5 tells 0 before and after.
        check.due("crash()", x.crash(), 11);
        for (int word = 0; word < 12; word++) {
            check.due("peek(" + word + ") after crash", x.peek(word), 0);
        }
        check.due("tier 0 after crash", Check.set(x, 0, 0, 2), "-1 -1");
        check.due("tier 1 after crash", Check.set(x, 1, 0, 4), "-1 -1 -1 -1");
        check.due("crash() again", x.crash(), 0);
        x.write(1, 3);
        check.due("no dirty word comes back", x.dirty(0, 0), 2);
    }

    private static void crashKeepsCounts() {
        CacheLadder x = new CacheLadder();
        x.tier(1, 1, 0, BACK, false);
        x.write(0, 1);
        x.read(4);
        x.write(4, 1);
        check.due("crash()", x.crash(), 1);
        check.due("counts after crash", Check.counts(x, 0), "0 1 1 1 1 1");
        check.due("traffic after crash", Check.traffic(x), "2 1");
        check.due("the store is left", x.stored(0), 1);
        check.due("tiers() after crash", x.tiers(), 1);
        check.due("read(0) after crash", x.read(0), 1);
    }
}
