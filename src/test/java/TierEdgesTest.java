import java.util.function.Consumer;

/** The edges of promises 2, 12 and 14 to 19: shapes, sets, ways, full and empty sets, the hand. */
public final class TierEdgesTest {
    private static final Check check = new Check("TierEdgesTest");
    private static final int LEAST = Integer.MIN_VALUE;
    private static final int MOST = Integer.MAX_VALUE;
    private static final int[] ALL_SETS = {1, 2, 4, 8, 16};
    private static final int AGE = 0;
    private static final int USE = 1;
    private static final int CLOCK = 2;
    private static final int COUNT = 3;
    private static final int BACK = 1;

    public static void main(String[] args) {
        everyShape();
        everyWrongShape();
        upToFourTiers();
        stateComesLast();
        refusedAccessesAreNone();
        setIsTheRest();
        lastPlaces();
        fromEmptyToFull();
        oneWay();
        handGoesRound();
        handStopsBeforeARound();
        handOfEachSet();
        useAndCountOfFourWays();
        leastWayWithoutLine();
        everyDirtyMask();
        countsOfNothing();
        check.end();
    }

    /** Sets 1, 2, 4, 8 or 16, ways 1 .. 4, choosing 0 .. 3, writing 0 .. 2, closed or not. */
    private static void everyShape() {
        for (int sets : ALL_SETS) {
            for (int ways = 1; ways <= 4; ways++) {
                for (int choosing = 0; choosing <= 3; choosing++) {
                    for (int writing = 0; writing <= 2; writing++) {
                        dueAllowed(sets, ways, choosing, writing, false);
                        dueAllowed(sets, ways, choosing, writing, true);
                    }
                }
            }
        }
    }

    private static void dueAllowed(int sets, int ways, int choosing, int writing, boolean closed) {
        String shape = shape(sets, ways, choosing, writing);
        CacheLadder x = new CacheLadder();
        check.due(shape, x.tier(sets, ways, choosing, writing, closed), 0);
        check.due(shape + " tiers()", x.tiers(), 1);
        check.due(shape + " last line", x.line(0, sets - 1, ways - 1), -1);
        check.due(shape + " next of the last set", x.next(0, sets - 1), -1);
        check.bounds(shape + " no line of a set more", () -> x.line(0, sets, 0));
        check.bounds(shape + " no line of a way more", () -> x.line(0, 0, ways));
        check.bounds(shape + " no next of a set more", () -> x.next(0, sets));
        x.write(4, 6);
        check.due(shape + " read back", x.read(4), 6);
        check.due(shape + " placed", x.line(0, 1 % sets, 0), 1);
    }

    private static String shape(int sets, int ways, int choosing, int writing) {
        return "tier(" + sets + ", " + ways + ", " + choosing + ", " + writing + ")";
    }

    /** "no such sets, ways, choosing (0 .. 3) or writing (0 .. 2)", one or several at once. */
    private static void everyWrongShape() {
        int[] sets = {LEAST, -2, -1, 0, 1, 3, 6, 8, 10, 14, 16, 17, 24, 32, 64, 256, 1 << 16, 1 << 30, MOST};
        int[] ways = {LEAST, -1, 0, 1, 4, 5, MOST};
        int[] choosings = {LEAST, -1, 0, 3, 4, MOST};
        int[] writings = {LEAST, -1, 0, 2, 3, MOST};
        for (int s : sets) {
            for (int w : ways) {
                for (int c : choosings) {
                    for (int write : writings) {
                        dueByShape(s, w, c, write);
                    }
                }
            }
        }
    }

    private static void dueByShape(int sets, int ways, int choosing, int writing) {
        boolean right = (sets == 1 || sets == 8 || sets == 16) && (ways == 1 || ways == 4)
                && (choosing == 0 || choosing == 3) && (writing == 0 || writing == 2);
        CacheLadder x = new CacheLadder();
        String thrown = Check.thrownBy(() -> x.tier(sets, ways, choosing, writing, true));
        String due = right ? Check.NOTHING : Check.ARGUMENT;
        check.due(shape(sets, ways, choosing, writing), thrown, due);
        check.due("tiers() after it", x.tiers(), right ? 1 : 0);
    }

    /** "UnsupportedOperation: there are 4": the fourth is still allowed. */
    private static void upToFourTiers() {
        CacheLadder x = new CacheLadder();
        for (int tier = 0; tier < 4; tier++) {
            int wrong = tier;
            check.due("tiers()", x.tiers(), tier);
            check.bounds("flush of tier to come", () -> x.flush(wrong));
            check.argument("wrong shape", () -> x.tier(1, 1, 0, 3, false));
            check.due("its number", x.tier(16, 4, tier, tier % 3, tier % 2 == 1), tier);
            check.due("flush of the new tier", x.flush(tier), 0);
        }
        for (int i = 0; i < 3; i++) {
            check.unsupported("one more", () -> x.tier(1, 1, 0, 0, false));
            check.argument("one more of a wrong shape", () -> x.tier(1, 0, 0, 0, false));
            check.due("tiers() then", x.tiers(), 4);
        }
        check.bounds("flush(4)", () -> x.flush(4));
        x.write(1023, 5);
        check.unsupported("one more, in use", () -> x.tier(1, 1, 0, 0, false));
        check.argument("one more of a wrong shape, in use", () -> x.tier(1, 0, 0, 0, false));
    }

    /** "IllegalState: a word was read or written before", with 0 to 3 tiers, by any access. */
    private static void stateComesLast() {
        for (int tiers = 0; tiers < 4; tiers++) {
            dueTooLate(tiers, "read", x -> x.read(1023));
            dueTooLate(tiers, "write of the same value", x -> x.write(0, 0));
            dueTooLate(tiers, "fill of one", x -> x.fill(1023, 1, 0, 0));
            dueTooLate(tiers, "run of one read", x -> x.run(2, 1, 1));
            dueTooLate(tiers, "run of one write", x -> x.run(1, 1, 1));
        }
    }

    private static CacheLadder ladder(int tiers) {
        CacheLadder x = new CacheLadder();
        for (int tier = 0; tier < tiers; tier++) {
            x.tier(2, 2, tier, tier % 3, false);
        }
        return x;
    }

    private static void dueTooLate(int tiers, String access, Consumer<CacheLadder> call) {
        CacheLadder x = ladder(tiers);
        call.accept(x);
        String after = tiers + " tiers, after a " + access;
        check.state(after, () -> x.tier(1, 1, 0, 0, false));
        check.argument(after + ", and a wrong shape", () -> x.tier(17, 1, 0, 0, false));
        x.crash();
        check.state(after + " and a crash", () -> x.tier(1, 1, 0, 0, false));
        check.due(after + ", tiers()", x.tiers(), tiers);
    }

    /** A refused read or write is none, and neither is what only asks. */
    private static void refusedAccessesAreNone() {
        for (int tiers = 0; tiers < 4; tiers++) {
            CacheLadder x = ladder(tiers);
            check.bounds("read", () -> x.read(1024));
            check.bounds("write", () -> x.write(-1, 1));
            check.argument("fill of none", () -> x.fill(0, 0, 1, 1));
            check.bounds("fill to a word too far", () -> x.fill(1023, 2, 1, 1));
            check.argument("run of too many", () -> x.run(1, 201, 1));
            check.argument("run over too many", () -> x.run(1, 1, 1025));
            x.run(1, 0, 1);
            x.peek(0);
            x.stored(0);
            x.crash();
            check.due("still allowed", x.tier(16, 4, 3, 2, true), tiers);
        }
    }

    /** "its SET, the rest of its number by the sets", for the blocks at the edges. */
    private static void setIsTheRest() {
        for (int sets : ALL_SETS) {
            for (int block : new int[] {0, 1, sets - 1, sets, sets + 1, 2 * sets - 1, 254, 255}) {
                CacheLadder x = new CacheLadder();
                x.tier(sets, 1, 0, BACK, false);
                x.read(4 * block + 3);
                for (int set = 0; set < sets; set++) {
                    int due = set == block % sets ? block : -1;
                    check.due("block " + block + " of " + sets + " sets, set " + set, x.line(0, set, 0), due);
                    check.due("next of it", x.next(0, set), due);
                }
                check.due("way of block " + block, x.way(0, block), 0);
                check.due("astray()", x.astray(), 0);
            }
        }
    }

    /** The last way of the last set of the last tier, with block 255, and what is not there. */
    private static void lastPlaces() {
        CacheLadder x = new CacheLadder();
        for (int tier = 0; tier < 4; tier++) {
            x.tier(16, 4, tier, BACK, tier == 3);
        }
        for (int block : new int[] {207, 223, 239, 255}) {
            x.read(4 * block);
        }
        x.write(1021, 7);
        for (int tier = 0; tier < 4; tier++) {
            check.due("last line of tier " + tier, x.line(tier, 15, 3), 255);
            check.due("way of 255 in tier " + tier, x.way(tier, 255), 3);
            check.due("way of 0 in tier " + tier, x.way(tier, 0), -1);
            check.due("dirty of 255 in tier " + tier, x.dirty(tier, 255), tier == 0 ? 2 : 0);
            check.due("dirty of 0 in tier " + tier, x.dirty(tier, 0), -1);
            check.due("line of an empty set", x.line(tier, 0, 0), -1);
            check.due("next of the full set", x.next(tier, 15), 207);
            check.due("next of an empty set", x.next(tier, 14), -1);
        }
    }

    /** "-1 when a way of it has no line", up to the last way; then the first line that came. */
    private static void fromEmptyToFull() {
        for (int choosing = AGE; choosing <= COUNT; choosing++) {
            for (int ways = 1; ways <= 4; ways++) {
                CacheLadder x = new CacheLadder();
                x.tier(2, ways, choosing, BACK, false);
                for (int way = 0; way < ways; way++) {
                    check.due("next with " + way + " of " + ways, x.next(0, 1), -1);
                    check.due("line to come", x.line(0, 1, way), -1);
                    x.read(4 * (2 * way + 1));
                    check.due("line that came", x.line(0, 1, way), 2 * way + 1);
                }
                check.due("next of a full set of " + ways + " by " + choosing, x.next(0, 1), 1);
                check.due("no eviction up to a full set", x.count(0, 4), 0);
                check.due("next of the empty set", x.next(0, 0), -1);
                x.read(4 * 255);
                check.due("an eviction from a full set", x.count(0, 4), 1);
                check.due("at its way", x.line(0, 1, 0), 255);
                check.due("the chosen one is gone", x.way(0, 1), -1);
            }
        }
    }

    /** With one way the line that is there goes, however it is chosen, used or marked. */
    private static void oneWay() {
        for (int choosing = AGE; choosing <= COUNT; choosing++) {
            CacheLadder x = new CacheLadder();
            x.tier(1, 1, choosing, BACK, false);
            for (int block = 0; block < 5; block++) {
                x.read(4 * block);
                x.read(4 * block + 1);
                check.due("the one line by " + choosing, x.line(0, 0, 0), block);
                check.due("next of one line", x.next(0, 0), block);
            }
            check.due("evictions of one line", x.count(0, 4), 4);
        }
    }

    /** "the hand goes on to the next way, round": with all marked, it comes back to where it was. */
    private static void handGoesRound() {
        for (int ways = 1; ways <= 4; ways++) {
            CacheLadder x = new CacheLadder();
            x.tier(1, ways, CLOCK, BACK, false);
            for (int block = 0; block < 5 * ways; block++) {
                if (block >= ways) {
                    check.due("next of " + ways + " ways", x.next(0, 0), block - ways);
                }
                x.read(4 * block);
                check.due("the hand goes round " + ways + " ways", x.way(0, block), block % ways);
            }
        }
    }

    /** Only lines that are marked are passed, and they are marked no more. */
    private static void handStopsBeforeARound() {
        CacheLadder x = new CacheLadder();
        x.tier(1, 4, CLOCK, BACK, false);
        readBlocks(x, 0, 1, 2, 3, 4);
        check.due("way 0 went, the hand is at 1", Check.set(x, 0, 0, 4), "4 1 2 3");
        readBlocks(x, 1, 2, 3);
        check.due("all are marked: round to 1", x.next(0, 0), 1);
        readBlocks(x, 5);
        check.due("way 1 went, the hand is at 2", Check.set(x, 0, 0, 4), "4 5 2 3");
        readBlocks(x, 2, 3);
        check.due("2 and 3 are passed, round to 0", x.next(0, 0), 4);
        readBlocks(x, 6);
        check.due("way 0 went, the hand is at 1", Check.set(x, 0, 0, 4), "6 5 2 3");
        check.due("5 is marked, 2 no more", x.next(0, 0), 2);
        readBlocks(x, 7);
        check.due("way 2 went, the hand is at 3", Check.set(x, 0, 0, 4), "6 5 7 3");
        readBlocks(x, 8);
        check.due("the last way went, the hand is at 0", Check.set(x, 0, 0, 4), "6 5 7 8");
        check.due("6 is marked, 5 no more", x.next(0, 0), 5);
    }

    private static void readBlocks(CacheLadder x, int... blocks) {
        for (int block : blocks) {
            x.read(4 * block);
        }
    }

    /** "each set has a hand": those of the first and the last set go on by themselves. */
    private static void handOfEachSet() {
        CacheLadder x = new CacheLadder();
        x.tier(16, 2, CLOCK, BACK, false);
        readBlocks(x, 15, 31, 0, 16, 47);
        check.due("last set", Check.set(x, 0, 15, 2), "47 31");
        check.due("next of the last set", x.next(0, 15), 31);
        check.due("next of the first set", x.next(0, 0), 0);
        readBlocks(x, 32, 48, 63);
        check.due("first set", Check.set(x, 0, 0, 2), "32 48");
        check.due("last set then", Check.set(x, 0, 15, 2), "47 63");
    }

    /** Of four ways, the one that is least by USE or COUNT can be any, the last one too. */
    private static void useAndCountOfFourWays() {
        for (int left = 0; left < 4; left++) {
            for (int choosing : new int[] {USE, COUNT}) {
                CacheLadder x = new CacheLadder();
                x.tier(1, 4, choosing, BACK, false);
                readBlocks(x, 0, 1, 2, 3);
                for (int block = 0; block < 4; block++) {
                    if (block != left) {
                        readBlocks(x, block);
                    }
                }
                check.due("the one not used again, by " + choosing, x.next(0, 0), left);
                readBlocks(x, left);
                check.due("all used again, by " + choosing, x.next(0, 0), choosing == COUNT ? 0 : left == 0 ? 1 : 0);
            }
        }
    }

    /** "the least one without a line": each pair of ways that have none, in an AROUND tier. */
    private static void leastWayWithoutLine() {
        for (int first = 0; first < 4; first++) {
            for (int second = first + 1; second < 4; second++) {
                CacheLadder x = new CacheLadder();
                x.tier(1, 4, CLOCK, 2, false);
                readBlocks(x, 0, 1, 2, 3);
                x.write(4 * second, 1);
                x.write(4 * first, 1);
                check.due("next with two ways free", x.next(0, 0), -1);
                readBlocks(x, 8);
                check.due("least way", x.way(0, 8), first);
                check.due("next with one way free", x.next(0, 0), -1);
                readBlocks(x, 9);
                check.due("other way", x.way(0, 9), second);
                check.due("no eviction", x.count(0, 4), 0);
                check.due("next of a full set", x.next(0, 0), first == 0 ? 8 : 0);
            }
        }
    }

    /** "Which words .. are dirty, as bits": each of the sixteen, and -1 without a line. */
    private static void everyDirtyMask() {
        for (int mask = 0; mask < 16; mask++) {
            CacheLadder x = new CacheLadder();
            x.tier(1, 1, 0, BACK, false);
            check.due("no line", x.dirty(0, 255), -1);
            x.read(1020);
            for (int i = 0; i < 4; i++) {
                if ((mask & 1 << i) != 0) {
                    x.write(1020 + i, 10 + i);
                }
            }
            check.due("mask", x.dirty(0, 255), mask);
            check.due("words that leave", x.flush(0), Integer.bitCount(mask));
            check.due("mask after flush", x.dirty(0, 255), 0);
            for (int i = 0; i < 4; i++) {
                check.due("word " + i, x.stored(1020 + i), (mask & 1 << i) != 0 ? 10 + i : 0);
            }
        }
    }

    /** Counts are 0 .. 5, of each tier of its own, and 0 at first. */
    private static void countsOfNothing() {
        for (int tiers = 1; tiers <= 4; tiers++) {
            CacheLadder x = ladder(tiers);
            for (int tier = 0; tier < tiers; tier++) {
                check.due("counts of a new tier", Check.counts(x, tier), "0 0 0 0 0 0");
                int of = tier;
                check.argument("count 6", () -> x.count(of, 6));
                check.argument("count -1", () -> x.count(of, -1));
            }
            check.due("traffic of a new ladder", Check.traffic(x), "0 0");
            x.read(0);
            check.due("traffic of a read", Check.traffic(x), "1 0");
            for (int tier = 0; tier < tiers; tier++) {
                check.due("counts after one read", Check.counts(x, tier), "0 1 0 0 0 0");
            }
        }
    }
}
