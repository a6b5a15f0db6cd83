/** The four ways to choose, and promises 14 and 17: which line goes, and where the new one comes. */
public final class ChoosingTest {
    private static final Check check = new Check("ChoosingTest");
    private static final int AGE = 0;
    private static final int USE = 1;
    private static final int CLOCK = 2;
    private static final int COUNT = 3;

    public static void main(String[] args) {
        age();
        use();
        clock();
        clockWhenLinesGo();
        countOfUses();
        countStartsAnew();
        writesAreUses();
        aroundIsNoUse();
        leastFreeWay();
        eachSetByItself();
        check.end();
    }

    private static CacheLadder oneSet(int choosing, int writing) {
        CacheLadder x = new CacheLadder();
        x.tier(1, 3, choosing, writing, false);
        readBlocks(x, 0, 1, 2);
        return x;
    }

    private static void readBlocks(CacheLadder x, int... blocks) {
        for (int block : blocks) {
            x.read(4 * block + block % 4);
        }
    }

    private static void dueSet(String what, CacheLadder x, String blocks, int next) {
        check.due("set, " + what, Check.set(x, 0, 0, 3), blocks);
        check.due("next, " + what, x.next(0, 0), next);
        check.due("next again, " + what, x.next(0, 0), next);
    }

    private static void age() {
        CacheLadder x = oneSet(AGE, 1);
        readBlocks(x, 0, 0, 1, 0);
        dueSet("AGE", x, "0 1 2", 0);
        readBlocks(x, 3);
        dueSet("AGE after 3", x, "3 1 2", 1);
        readBlocks(x, 1, 4, 5);
        dueSet("AGE after 5", x, "3 4 5", 3);
        check.due("evictions by AGE", x.count(0, 4), 3);
    }

    private static void use() {
        CacheLadder x = oneSet(USE, 1);
        readBlocks(x, 0);
        dueSet("USE", x, "0 1 2", 1);
        readBlocks(x, 3);
        dueSet("USE after 3", x, "0 3 2", 2);
        readBlocks(x, 2);
        dueSet("USE after 2", x, "0 3 2", 0);
        readBlocks(x, 0, 0);
        dueSet("USE after 0", x, "0 3 2", 3);
    }

    private static void clock() {
        CacheLadder x = oneSet(CLOCK, 1);
        dueSet("CLOCK, all marked", x, "0 1 2", 0);
        readBlocks(x, 3);
        dueSet("CLOCK, hand at 1", x, "3 1 2", 1);
        readBlocks(x, 1);
        dueSet("CLOCK, 1 is marked", x, "3 1 2", 2);
        readBlocks(x, 4);
        dueSet("CLOCK, hand at 0", x, "3 1 4", 1);
        readBlocks(x, 5);
        dueSet("CLOCK, hand at 2", x, "3 5 4", 3);
        readBlocks(x, 3);
        dueSet("CLOCK, all marked, hand at 2", x, "3 5 4", 4);
        readBlocks(x, 6);
        dueSet("CLOCK, no mark but the new one", x, "3 5 6", 3);
    }

    private static void clockWhenLinesGo() {
        CacheLadder x = oneSet(CLOCK, 1);
        readBlocks(x, 3, 4);
        dueSet("CLOCK, hand at 2", x, "3 4 2", 2);
        x.empty(0);
        dueSet("CLOCK, emptied", x, "-1 -1 -1", -1);
        readBlocks(x, 5, 6, 7);
        dueSet("CLOCK, the hand has stayed", x, "5 6 7", 7);
        x.crash();
        readBlocks(x, 5, 6, 7);
        dueSet("CLOCK, after a crash the hand is at 0", x, "5 6 7", 5);
    }

    private static void countOfUses() {
        CacheLadder x = oneSet(COUNT, 1);
        dueSet("COUNT, all once", x, "0 1 2", 0);
        readBlocks(x, 0, 0, 1);
        dueSet("COUNT 3 2 1", x, "0 1 2", 2);
        readBlocks(x, 2, 2);
        dueSet("COUNT 3 2 3", x, "0 1 2", 1);
        readBlocks(x, 1);
        dueSet("COUNT 3 3 3", x, "0 1 2", 0);
    }

    private static void countStartsAnew() {
        CacheLadder x = oneSet(COUNT, 1);
        readBlocks(x, 0, 1, 2, 3);
        dueSet("COUNT 1 2 2", x, "3 1 2", 3);
        readBlocks(x, 3);
        dueSet("COUNT 2 2 2, 1 was placed first", x, "3 1 2", 1);
        readBlocks(x, 3, 2, 1);
        dueSet("COUNT 3 3 3, 1 was placed first", x, "3 1 2", 1);
        readBlocks(x, 4, 0);
        dueSet("COUNT 3 1 3, 0 instead of 4", x, "3 0 2", 0);
    }

    private static void writesAreUses() {
        CacheLadder used = oneSet(USE, 0);
        used.write(0, 1);
        check.due("a write hit is a use", used.next(0, 0), 1);
        CacheLadder counted = oneSet(COUNT, 1);
        counted.fill(0, 8, 1, 1);
        check.due("a write hit counts", counted.next(0, 0), 2);
        counted.write(12, 1);
        check.due("a write miss places", Check.set(counted, 0, 0, 3), "0 1 3");
        counted.write(12, 1);
        check.due("placing counts one", counted.next(0, 0), 0);
        CacheLadder marked = oneSet(CLOCK, 1);
        readBlocks(marked, 3);
        marked.write(4, 1);
        check.due("a write hit marks", marked.next(0, 0), 2);
    }

    private static void aroundIsNoUse() {
        CacheLadder x = oneSet(USE, 2);
        x.write(4, 9);
        dueSet("a write around makes it leave", x, "0 -1 2", -1);
        readBlocks(x, 1);
        dueSet("and come back", x, "0 1 2", 0);
        check.due("no eviction", x.count(0, 4), 0);
    }

    private static void leastFreeWay() {
        CacheLadder x = oneSet(AGE, 2);
        x.write(8, 9);
        x.write(0, 9);
        dueSet("two ways free", x, "-1 1 -1", -1);
        readBlocks(x, 5);
        dueSet("least way first", x, "5 1 -1", -1);
        readBlocks(x, 6);
        dueSet("1 is the eldest", x, "5 1 6", 1);
    }

    private static void eachSetByItself() {
        CacheLadder x = new CacheLadder();
        x.tier(2, 2, CLOCK, 1, false);
        readBlocks(x, 0, 1, 2, 3, 5);
        check.due("set 0 is left alone", Check.set(x, 0, 0, 2), "0 2");
        check.due("set 1", Check.set(x, 0, 1, 2), "5 3");
        check.due("next of set 0", x.next(0, 0), 0);
        check.due("next of set 1", x.next(0, 1), 3);
    }
}
