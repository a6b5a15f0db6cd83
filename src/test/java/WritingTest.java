/** The three ways to write, alone and below one another, with promises 3 to 5, 12, 13 and 16. */
public final class WritingTest {
    private static final Check check = new Check("WritingTest");
    private static final int THROUGH = 0;
    private static final int BACK = 1;
    private static final int AROUND = 2;

    public static void main(String[] args) {
        through();
        back();
        around();
        fillsBlockByBlock();
        evictedWordsOnly();
        backOverAround();
        throughOverThrough();
        backOverBack();
        wholeBlocks();
        wholeBlocksThatLeave();
        readsPassDown();
        peekLeavesAll();
        check.end();
    }

    private static CacheLadder ladder(int... writing) {
        CacheLadder x = new CacheLadder();
        for (int w : writing) {
            x.tier(1, 2, 1, w, false);
        }
        return x;
    }

    private static void through() {
        CacheLadder x = ladder(THROUGH);
        x.write(0, 5);
        check.due("THROUGH, stored(0)", x.stored(0), 5);
        check.due("THROUGH, dirty", x.dirty(0, 0), 0);
        check.due("THROUGH, counts after a miss", Check.counts(x, 0), "0 0 0 1 0 1");
        check.due("THROUGH, traffic after a miss", Check.traffic(x), "1 1");
        x.write(3, 6);
        check.due("THROUGH, counts after a hit", Check.counts(x, 0), "0 0 1 1 0 2");
        check.due("THROUGH, read(3)", x.read(3), 6);
        check.due("THROUGH, read(0)", x.read(0), 5);
        check.due("THROUGH, hits", x.count(0, 0), 2);
        check.due("THROUGH, flush", x.flush(0), 0);
        check.due("THROUGH, crash", x.crash(), 0);
    }

    private static void back() {
        CacheLadder x = ladder(BACK);
        x.write(0, 5);
        x.write(3, 6);
        check.due("BACK, stored(0)", x.stored(0), 0);
        check.due("BACK, peek(0)", x.peek(0), 5);
        check.due("BACK, dirty", x.dirty(0, 0), 9);
        check.due("BACK, counts", Check.counts(x, 0), "0 0 1 1 0 0");
        check.due("BACK, traffic", Check.traffic(x), "1 0");
        x.read(4);
        check.due("BACK, dirty of a read line", x.dirty(0, 1), 0);
        x.read(8);
        check.due("BACK, stored(0) after it left", x.stored(0), 5);
        check.due("BACK, stored(3) after it left", x.stored(3), 6);
        check.due("BACK, counts after it left", Check.counts(x, 0), "0 2 1 1 1 2");
        check.due("BACK, one store", Check.traffic(x), "3 1");
    }

    private static void around() {
        CacheLadder x = ladder(AROUND);
        x.write(0, 5);
        check.due("AROUND, stored(0)", x.stored(0), 5);
        check.due("AROUND, places nothing", x.way(0, 0), -1);
        check.due("AROUND, traffic", Check.traffic(x), "0 1");
        check.due("AROUND, read(0)", x.read(0), 5);
        check.due("AROUND, a read places", x.way(0, 0), 0);
        x.write(1, 6);
        check.due("AROUND, a write makes it leave", x.way(0, 0), -1);
        check.due("AROUND, counts", Check.counts(x, 0), "0 1 0 2 0 2");
        check.due("AROUND, traffic after all", Check.traffic(x), "1 2");
        check.due("AROUND, read(1)", x.read(1), 6);
    }

    private static void fillsBlockByBlock() {
        CacheLadder x = new CacheLadder();
        x.tier(4, 1, 0, BACK, false);
        x.fill(6, 7, 100, 10);
        check.due("fill, first block", x.dirty(0, 1), 12);
        check.due("fill, whole block", x.dirty(0, 2), 15);
        check.due("fill, last block", x.dirty(0, 3), 1);
        check.due("fill, other block", x.dirty(0, 0), -1);
        check.due("fill, a write each block", Check.counts(x, 0), "0 0 0 3 0 0");
        check.due("fill, the whole one is not read", Check.traffic(x), "2 0");
        for (int i = 0; i < 7; i++) {
            check.due("fill, peek(" + (6 + i) + ")", x.peek(6 + i), 100 + 10 * i);
        }
        check.due("fill, peek(5)", x.peek(5), 0);
        check.due("fill, peek(13)", x.peek(13), 0);
    }

    private static void evictedWordsOnly() {
        CacheLadder x = ladder(BACK, THROUGH);
        x.fill(0, 2, 7, 1);
        x.read(4);
        x.read(8);
        check.due("words that left tier 0", x.count(0, 5), 2);
        check.due("are written in tier 1", Check.counts(x, 1), "0 3 1 0 1 2");
        check.due("and at the store", x.stored(1), 8);
        check.due("as one", x.traffic(true), 1);
    }

    private static void backOverAround() {
        CacheLadder x = new CacheLadder();
        x.tier(1, 1, 0, BACK, false);
        x.tier(1, 1, 0, AROUND, false);
        x.write(0, 5);
        check.due("BACK over AROUND, both have it", x.way(0, 0) + x.way(1, 0), 0);
        x.write(4, 6);
        check.due("BACK over AROUND, tier 0", Check.counts(x, 0), "0 0 0 2 1 1");
        check.due("BACK over AROUND, tier 1", Check.counts(x, 1), "0 2 0 1 0 1");
        check.due("BACK over AROUND, stored(0)", x.stored(0), 5);
        check.due("BACK over AROUND, traffic", Check.traffic(x), "2 1");
    }

    private static void throughOverThrough() {
        CacheLadder x = ladder(THROUGH, THROUGH);
        x.write(2, 5);
        check.due("THROUGH twice, tier 0", Check.counts(x, 0), "0 0 0 1 0 1");
        check.due("THROUGH twice, tier 1", Check.counts(x, 1), "0 1 1 0 0 1");
        check.due("THROUGH twice, traffic", Check.traffic(x), "1 1");
        check.due("THROUGH twice, stored", x.stored(2), 5);
    }

    private static void backOverBack() {
        CacheLadder x = ladder(BACK, BACK);
        x.write(2, 5);
        check.due("BACK twice, dirty above", x.dirty(0, 0), 4);
        check.due("BACK twice, dirty below", x.dirty(1, 0), 0);
        x.read(4);
        x.read(8);
        check.due("BACK twice, gone above", x.dirty(0, 0), -1);
        check.due("BACK twice, dirty below then", x.dirty(1, 0), 4);
        check.due("BACK twice, tier 0", Check.counts(x, 0), "0 2 0 1 1 1");
        check.due("BACK twice, tier 1", Check.counts(x, 1), "0 3 1 0 1 0");
        check.due("BACK twice, peek", x.peek(2), 5);
    }

    private static void wholeBlocks() {
        CacheLadder open = ladder(BACK, BACK);
        open.fill(0, 4, 1, 1);
        check.due("whole block, nothing is read", Check.counts(open, 1), "0 0 0 0 0 0");
        check.due("whole block, no load", Check.traffic(open), "0 0");
        check.due("whole block, a write miss", Check.counts(open, 0), "0 0 0 1 0 0");
        open.fill(4, 3, 1, 1);
        check.due("three words are not all", open.count(1, 1), 1);
        CacheLadder self = new CacheLadder();
        self.tier(1, 2, 0, BACK, true);
        self.tier(1, 2, 0, BACK, false);
        self.fill(0, 4, 1, 1);
        check.due("only tiers below count as closed", Check.traffic(self), "0 0");
        CacheLadder far = new CacheLadder();
        far.tier(1, 2, 0, BACK, false);
        far.tier(1, 2, 0, BACK, false);
        far.tier(1, 2, 0, BACK, true);
        far.fill(0, 4, 1, 1);
        check.due("a closed tier far below wants it, too", Check.traffic(far), "1 0");
        check.due("and has it", far.way(2, 0), 0);
        check.due("none of it dirty there", far.dirty(2, 0), 0);
        check.due("all of it dirty above", far.dirty(0, 0), 15);
    }

    private static void wholeBlocksThatLeave() {
        CacheLadder x = new CacheLadder();
        x.tier(1, 1, 0, BACK, false);
        x.tier(1, 1, 0, BACK, false);
        x.fill(0, 12, 1, 1);
        check.due("whole blocks pass down unread", Check.traffic(x), "0 1");
        check.due("tier 1 of them", Check.counts(x, 1), "0 0 0 2 1 4");
        check.due("stored(3)", x.stored(3), 4);
        check.due("dirty below", x.dirty(1, 1), 15);
        check.due("peek(7) is below", x.peek(7), 8);
    }

    private static void readsPassDown() {
        CacheLadder x = ladder(BACK, AROUND, THROUGH);
        x.read(0);
        for (int tier = 0; tier < 3; tier++) {
            check.due("a read places in tier " + tier, x.way(tier, 0), 0);
            check.due("a miss in tier " + tier, Check.counts(x, tier), "0 1 0 0 0 0");
        }
        x.read(1);
        check.due("a hit stays above", Check.counts(x, 1), "0 1 0 0 0 0");
        check.due("a hit", Check.counts(x, 0), "1 1 0 0 0 0");
        x.empty(0);
        x.read(2);
        check.due("a hit in tier 1", Check.counts(x, 1), "1 1 0 0 0 0");
        check.due("a load", Check.traffic(x), "1 0");
    }

    private static void peekLeavesAll() {
        CacheLadder x = ladder(BACK, BACK);
        x.write(0, 5);
        x.read(4);
        check.due("peek(0)", x.peek(0), 5);
        check.due("peek(1023)", x.peek(1023), 0);
        check.due("peek is no use", x.next(0, 0), 0);
        check.due("peek is no access", Check.counts(x, 0), "0 1 0 1 0 0");
        check.due("peek loads nothing", Check.traffic(x), "2 0");
        check.due("peek places nothing", x.way(0, 255), -1);
        check.bounds("peek(1024)", () -> x.peek(1024));
        check.bounds("peek(-1)", () -> x.peek(-1));
        x.flush(0);
        x.empty(0);
        check.due("peek(0) below", x.peek(0), 5);
        check.due("stored(0) behind it", x.stored(0), 0);
    }
}
