/** Promises 1, 3 to 8, 11, 13, 18 and 19 with the store alone, and what has no tier to be of. */
public final class NoTiersTest {
    private static final Check check = new Check("NoTiersTest");

    public static void main(String[] args) {
        newObject();
        readAndWrite();
        wrongWords();
        filling();
        wrongFills();
        running();
        wrongRuns();
        nothingToLose();
        noSuchTier();
        check.end();
    }

    private static void newObject() {
        CacheLadder x = new CacheLadder();
        check.due("new tiers()", x.tiers(), 0);
        check.due("new astray()", x.astray(), 0);
        check.due("new traffic", Check.traffic(x), "0 0");
    }

    private static void readAndWrite() {
        CacheLadder x = new CacheLadder();
        x.write(0, Integer.MIN_VALUE);
        x.write(1023, -7);
        x.write(1023, 8);
        check.due("read(0)", x.read(0), Integer.MIN_VALUE);
        check.due("read(1023)", x.read(1023), 8);
        check.due("read(1022)", x.read(1022), 0);
        check.due("peek(1023)", x.peek(1023), 8);
        check.due("stored(1023)", x.stored(1023), 8);
        check.due("a load each read, a store each write", Check.traffic(x), "3 3");
    }

    private static void wrongWords() {
        CacheLadder x = new CacheLadder();
        int[] wrong = {-1, 1024, Integer.MIN_VALUE, Integer.MAX_VALUE};
        for (int word : wrong) {
            check.bounds("read(" + word + ")", () -> x.read(word));
            check.bounds("write(" + word + ", 1)", () -> x.write(word, 1));
            check.bounds("peek(" + word + ")", () -> x.peek(word));
            check.bounds("stored(" + word + ")", () -> x.stored(word));
        }
        check.due("traffic after wrong words", Check.traffic(x), "0 0");
        check.due("a wrong word is no access", x.tier(1, 1, 0, 0, false), 0);
    }

    private static void filling() {
        CacheLadder x = new CacheLadder();
        x.fill(2, 8, 10, -3);
        int[] due = {0, 0, 10, 7, 4, 1, -2, -5, -8, -11, 0};
        for (int word = 0; word < due.length; word++) {
            check.due("stored(" + word + ") after fill", x.stored(word), due[word]);
        }
        check.due("a store each block", x.traffic(true), 3);
        x.fill(1023, 1, 5, 9);
        check.due("stored(1023) after fill of one", x.stored(1023), 5);
        x.fill(0, 1024, Integer.MAX_VALUE, 1);
        check.due("stored(1) wraps around", x.stored(1), Integer.MIN_VALUE);
        check.due("a store each of 256 blocks", x.traffic(true), 260);
        check.due("fill loads nothing", x.traffic(false), 0);
    }

    private static void wrongFills() {
        CacheLadder x = new CacheLadder();
        check.argument("fill n 0", () -> x.fill(0, 0, 1, 1));
        check.argument("fill n -1", () -> x.fill(0, -1, 1, 1));
        check.argument("fill n 0 comes before a wrong word", () -> x.fill(-1, 0, 1, 1));
        check.argument("fill least n", () -> x.fill(1024, Integer.MIN_VALUE, 1, 1));
        check.bounds("fill from -1", () -> x.fill(-1, 2, 1, 1));
        check.bounds("fill from 1024", () -> x.fill(1024, 1, 1, 1));
        check.bounds("fill past the end", () -> x.fill(1023, 2, 1, 1));
        check.bounds("fill of 1025", () -> x.fill(0, 1025, 1, 1));
        check.bounds("fill with the greatest n", () -> x.fill(1, Integer.MAX_VALUE, 1, 1));
        check.bounds("fill from the least word", () -> x.fill(Integer.MIN_VALUE, 1, 1, 1));
        check.due("a wrong fill changes nothing", x.crash() + x.traffic(true), 0);
        check.due("a wrong fill is no access", x.tier(1, 1, 0, 0, false), 0);
    }

    private static void running() {
        CacheLadder x = new CacheLadder();
        // From seed 1 the row is 1103527590 (word 30, written), -1770082073 (word 16, read),
        // 662824084 (word 4, written).
        check.due("run of three", x.run(1, 3, 32), 0);
        check.due("one read, two writes", Check.traffic(x), "1 2");
        check.due("stored(30) after run", x.stored(30), 1103527590);
        check.due("stored(4) after run", x.stored(4), 662824084);
        check.due("stored(16) after run", x.stored(16), 0);
        x.write(16, 77);
        check.due("the sum has what was read", x.run(1, 3, 32), 77);
    }

    private static void wrongRuns() {
        CacheLadder x = new CacheLadder();
        check.argument("run n -1", () -> x.run(1, -1, 1));
        check.argument("run n 201", () -> x.run(1, 201, 1));
        check.argument("run span 0", () -> x.run(1, 1, 0));
        check.argument("run span -1", () -> x.run(1, 0, -1));
        check.argument("run span 1025", () -> x.run(1, 1, 1025));
        check.due("run of none", x.run(5, 0, 1024), 0);
        check.due("no traffic of it", Check.traffic(x), "0 0");
        check.due("run n 200, span 1", x.run(0, 200, 1) == 0 ? 1 : 0, 0);
        x.run(0, 200, 1024);
        check.due("traffic of 400 accesses", x.traffic(false) + x.traffic(true), 400);
    }

    private static void nothingToLose() {
        CacheLadder x = new CacheLadder();
        x.write(9, 9);
        check.due("crash()", x.crash(), 0);
        check.due("stored(9) after crash", x.stored(9), 9);
        check.due("peek(9) after crash", x.peek(9), 9);
        check.due("traffic after crash", Check.traffic(x), "0 1");
    }

    private static void noSuchTier() {
        CacheLadder x = new CacheLadder();
        check.bounds("flush(0)", () -> x.flush(0));
        check.bounds("empty(0)", () -> x.empty(0));
        check.bounds("count(0, 0)", () -> x.count(0, 0));
        check.bounds("line(0, 0, 0)", () -> x.line(0, 0, 0));
        check.bounds("way(0, 0)", () -> x.way(0, 0));
        check.bounds("dirty(0, 0)", () -> x.dirty(0, 0));
        check.bounds("next(0, 0)", () -> x.next(0, 0));
    }
}
