/** Closed tiers: what is above them is in them, and goes with them. Promise 19 along the way. */
public final class ClosedTest {
    private static final Check check = new Check("ClosedTest");
    private static final int AGE = 0;
    private static final int USE = 1;
    private static final int THROUGH = 0;
    private static final int BACK = 1;
    private static final int AROUND = 2;

    public static void main(String[] args) {
        aboveGoesToo();
        openTierLetsStay();
        uppermostWordComes();
        theWayStaysTheChosenOne();
        aroundClosedTakesAll();
        flushIntoAroundClosed();
        goneBeforeItsTurnInEmpty();
        goneBeforeItsTurnInFlush();
        olderWordsComeLast();
        check.end();
    }

    private static void dueTidy(CacheLadder x) {
        check.due("astray()", x.astray(), 0);
    }

    private static void aboveGoesToo() {
        CacheLadder x = new CacheLadder();
        x.tier(1, 4, AGE, BACK, false);
        x.tier(1, 1, AGE, BACK, true);
        x.write(0, 1);
        x.write(4, 2);
        check.due("tier 0 lost what tier 1 lost", Check.set(x, 0, 0, 4), "-1 1 -1 -1");
        check.due("its dirty word came down", x.stored(0), 1);
        check.due("tier 0", Check.counts(x, 0), "0 0 0 2 0 0");
        check.due("tier 1", Check.counts(x, 1), "0 2 0 0 1 1");
        check.due("traffic", Check.traffic(x), "2 1");
        dueTidy(x);
        check.due("empty(1)", x.empty(1), 1);
        check.due("empty(1) takes tier 0's", x.way(0, 1), -1);
        check.due("and its dirty word", x.stored(4), 2);
        check.due("no more evictions", x.count(1, 4), 1);
    }

    private static void openTierLetsStay() {
        CacheLadder x = new CacheLadder();
        x.tier(1, 4, AGE, BACK, false);
        x.tier(1, 1, AGE, BACK, false);
        x.write(0, 1);
        x.write(4, 2);
        check.due("tier 0 keeps both", Check.set(x, 0, 0, 4), "0 1 -1 -1");
        check.due("tier 1 has the last", x.line(1, 0, 0), 1);
        check.due("nothing is stored", x.stored(0), 0);
        dueTidy(x);
    }

    private static void uppermostWordComes() {
        CacheLadder x = new CacheLadder();
        x.tier(1, 1, AGE, BACK, false);
        x.tier(1, 1, AGE, BACK, false);
        x.tier(1, 2, AGE, BACK, true);
        x.write(0, 1);
        x.write(1, 7);
        check.due("flush(0)", x.flush(0), 2);
        x.write(0, 2);
        x.write(3, 9);
        check.due("dirty in tier 0", x.dirty(0, 0), 9);
        check.due("dirty in tier 1", x.dirty(1, 0), 3);
        check.due("dirty in tier 2", x.dirty(2, 0), 0);
        check.due("empty(2)", x.empty(2), 1);
        check.due("word 0 of tier 0", x.stored(0), 2);
        check.due("word 1 of tier 1", x.stored(1), 7);
        check.due("word 2 of none", x.stored(2), 0);
        check.due("word 3 of tier 0", x.stored(3), 9);
        check.due("three words written by tier 2", x.count(2, 5), 3);
        check.due("none by tier 1", x.count(1, 5), 0);
        check.due("just the flushed ones by tier 0", x.count(0, 5), 2);
        check.due("all have gone", x.way(0, 0) + x.way(1, 0) + x.way(2, 0), -3);
        check.due("one store", x.traffic(true), 1);
    }

    private static void theWayStaysTheChosenOne() {
        CacheLadder x = new CacheLadder();
        x.tier(1, 2, AGE, BACK, false);
        x.tier(1, 2, USE, BACK, true);
        x.read(0);
        x.read(4);
        x.read(8);
        check.due("tier 0 before", Check.set(x, 0, 0, 2), "2 1");
        check.due("tier 1 before", Check.set(x, 1, 0, 2), "2 1");
        x.write(4, 9);
        // Tier 0 chooses 1, whose word is a use in tier 1, so tier 1 chooses 2 and takes it from
        // way 0 of tier 0: the new line still comes to way 1.
        x.read(12);
        check.due("tier 0 after", Check.set(x, 0, 0, 2), "-1 3");
        check.due("tier 1 after", Check.set(x, 1, 0, 2), "3 1");
        check.due("dirty in tier 1", x.dirty(1, 1), 1);
        check.due("tier 0 counts", Check.counts(x, 0), "0 4 1 0 2 1");
        check.due("tier 1 counts", Check.counts(x, 1), "0 4 1 0 2 0");
        dueTidy(x);
    }

    private static void aroundClosedTakesAll() {
        CacheLadder x = new CacheLadder();
        x.tier(1, 2, AGE, THROUGH, false);
        x.tier(1, 2, AGE, AROUND, true);
        x.write(0, 5);
        check.due("gone from tier 0", x.way(0, 0), -1);
        check.due("gone from tier 1", x.way(1, 0), -1);
        check.due("tier 0 counts", Check.counts(x, 0), "0 0 0 1 0 1");
        check.due("tier 1 counts", Check.counts(x, 1), "0 1 0 1 0 1");
        check.due("traffic", Check.traffic(x), "1 1");
        check.due("stored", x.stored(0), 5);
        dueTidy(x);
    }

    private static void flushIntoAroundClosed() {
        CacheLadder x = new CacheLadder();
        x.tier(1, 2, AGE, BACK, false);
        x.tier(1, 2, AGE, AROUND, true);
        x.write(0, 5);
        check.due("flush(0)", x.flush(0), 1);
        check.due("the line has gone with tier 1's", x.way(0, 0), -1);
        check.due("the word went down once", Check.counts(x, 1), "0 1 0 1 0 1");
        check.due("one store", Check.traffic(x), "1 1");
        check.due("stored", x.stored(0), 5);
    }

    /** Block 1 is dirty in tier 1 and next to go there; block 0 is dirty in tier 0 alone. */
    private static CacheLadder withNextToGo() {
        CacheLadder x = new CacheLadder();
        x.tier(1, 3, AGE, BACK, false);
        x.tier(1, 2, AGE, BACK, false);
        x.tier(1, 4, AGE, AROUND, true);
        x.read(0);
        x.write(4, 6);
        x.flush(0);
        x.read(8);
        x.write(0, 5);
        check.due("tier 0", Check.set(x, 0, 0, 3), "0 1 2");
        check.due("tier 1", Check.set(x, 1, 0, 2), "2 1");
        check.due("next of tier 1", x.next(1, 0), 1);
        return x;
    }

    private static void goneBeforeItsTurnInEmpty() {
        CacheLadder x = withNextToGo();
        check.due("empty(0) without block 1", x.empty(0), 2);
        check.due("tier 1", Check.set(x, 1, 0, 2), "2 0");
        check.due("tier 2", Check.set(x, 2, 0, 4), "0 -1 2 -1");
        check.due("stored(4)", x.stored(4), 6);
        check.due("peek(0)", x.peek(0), 5);
        dueTidy(x);
    }

    private static void goneBeforeItsTurnInFlush() {
        CacheLadder x = withNextToGo();
        x.write(5, 8);
        check.due("flush(0) without block 1's word", x.flush(0), 1);
        check.due("tier 0", Check.set(x, 0, 0, 3), "0 -1 2");
        check.due("stored(4)", x.stored(4), 6);
        check.due("stored(5)", x.stored(5), 8);
        check.due("traffic", Check.traffic(x), "3 2");
        dueTidy(x);
    }

    private static void olderWordsComeLast() {
        CacheLadder x = withNextToGo();
        x.write(4, 7);
        x.flush(0);
        // As the document has it: the line of the AROUND tier leaves with tier 0's 7, and then
        // tier 1's older 6 is written below.
        check.due("stored(4)", x.stored(4), 6);
        check.due("peek(4)", x.peek(4), 6);
        check.due("traffic", Check.traffic(x), "3 2");
    }
}
