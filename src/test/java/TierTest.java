/** Promises 2, 12, 14 to 18: tiers are made, and what there is of them is named rightly. */
public final class TierTest {
    private static final Check check = new Check("TierTest");

    public static void main(String[] args) {
        numbers();
        wrongShapes();
        tooLate();
        notTooLate();
        orderOfExceptions();
        wrongPlaces();
        sets();
        check.end();
    }

    private static void numbers() {
        CacheLadder x = new CacheLadder();
        check.due("first tier", x.tier(1, 1, 0, 0, false), 0);
        check.due("second tier", x.tier(2, 2, 1, 1, true), 1);
        check.due("third tier", x.tier(8, 3, 2, 2, false), 2);
        check.due("fourth tier", x.tier(16, 4, 3, 0, true), 3);
        check.due("tiers()", x.tiers(), 4);
        check.unsupported("fifth tier", () -> x.tier(4, 1, 0, 0, false));
        check.due("tiers() after the fifth", x.tiers(), 4);
        for (int tier = 0; tier < 4; tier++) {
            check.due("counts of new tier " + tier, Check.counts(x, tier), "0 0 0 0 0 0");
            check.due("line of new tier " + tier, x.line(tier, 0, 0), -1);
            check.due("next of new tier " + tier, x.next(tier, 0), -1);
            check.due("way in new tier " + tier, x.way(tier, 0), -1);
            check.due("dirty in new tier " + tier, x.dirty(tier, 255), -1);
            check.due("flush of new tier " + tier, x.flush(tier), 0);
            check.due("empty of new tier " + tier, x.empty(tier), 0);
        }
    }

    private static void wrongShapes() {
        CacheLadder x = new CacheLadder();
        for (int sets = -2; sets <= 40; sets++) {
            int tried = sets;
            boolean right = sets == 1 || sets == 2 || sets == 4 || sets == 8 || sets == 16;
            if (!right) {
                check.argument("tier of sets " + sets, () -> x.tier(tried, 1, 0, 0, false));
            }
        }
        check.argument("least sets", () -> x.tier(Integer.MIN_VALUE, 1, 0, 0, false));
        check.argument("ways 0", () -> x.tier(1, 0, 0, 0, false));
        check.argument("ways 5", () -> x.tier(1, 5, 0, 0, false));
        check.argument("choosing -1", () -> x.tier(1, 1, -1, 0, false));
        check.argument("choosing 4", () -> x.tier(1, 1, 4, 0, false));
        check.argument("writing -1", () -> x.tier(1, 1, 0, -1, false));
        check.argument("writing 3", () -> x.tier(1, 1, 0, 3, false));
        check.due("no tier of wrong shapes", x.tiers(), 0);
        check.due("four sets are right", x.tier(4, 1, 0, 0, false), 0);
    }

    private static void tooLate() {
        for (int access = 0; access < 4; access++) {
            CacheLadder x = new CacheLadder();
            x.tier(1, 1, 0, 0, false);
            access(x, access);
            check.state("tier after access " + access, () -> x.tier(1, 1, 0, 0, false));
            x.crash();
            check.state("tier after access and crash " + access, () -> x.tier(1, 1, 0, 0, false));
            check.due("tiers() after access " + access, x.tiers(), 1);
        }
    }

    private static void access(CacheLadder x, int access) {
        if (access == 0) {
            x.read(5);
        } else if (access == 1) {
            x.write(5, 0);
        } else if (access == 2) {
            x.fill(5, 1, 0, 0);
        } else {
            x.run(5, 1, 5);
        }
    }

    private static void notTooLate() {
        CacheLadder x = new CacheLadder();
        x.tier(1, 1, 0, 0, false);
        x.peek(0);
        x.stored(0);
        x.run(5, 0, 5);
        x.crash();
        x.flush(0);
        x.empty(0);
        check.due("no word was read or written", x.tier(1, 1, 0, 0, false), 1);
    }

    private static void orderOfExceptions() {
        CacheLadder x = new CacheLadder();
        for (int i = 0; i < 4; i++) {
            x.tier(1, 1, 0, 0, false);
        }
        x.read(0);
        check.argument("wrong shape, four tiers, a read", () -> x.tier(3, 1, 0, 0, false));
        check.unsupported("four tiers, a read", () -> x.tier(1, 1, 0, 0, false));
        check.bounds("wrong tier and count", () -> x.count(4, 6));
        check.argument("wrong count", () -> x.count(3, 6));
    }

    private static void wrongPlaces() {
        CacheLadder x = new CacheLadder();
        x.tier(4, 3, 0, 0, false);
        int[] wrongTiers = {-1, 1, Integer.MIN_VALUE, Integer.MAX_VALUE};
        for (int tier : wrongTiers) {
            check.bounds("flush(" + tier + ")", () -> x.flush(tier));
            check.bounds("empty(" + tier + ")", () -> x.empty(tier));
            check.bounds("count(" + tier + ", 0)", () -> x.count(tier, 0));
            check.bounds("line(" + tier + ", 0, 0)", () -> x.line(tier, 0, 0));
            check.bounds("way(" + tier + ", 0)", () -> x.way(tier, 0));
            check.bounds("dirty(" + tier + ", 0)", () -> x.dirty(tier, 0));
            check.bounds("next(" + tier + ", 0)", () -> x.next(tier, 0));
        }
        int[] wrongBlocks = {-1, 256, Integer.MIN_VALUE, Integer.MAX_VALUE};
        for (int block : wrongBlocks) {
            check.bounds("way(0, " + block + ")", () -> x.way(0, block));
            check.bounds("dirty(0, " + block + ")", () -> x.dirty(0, block));
        }
        check.bounds("line set -1", () -> x.line(0, -1, 0));
        check.bounds("line set 4", () -> x.line(0, 4, 0));
        check.bounds("line way -1", () -> x.line(0, 0, -1));
        check.bounds("line way 3", () -> x.line(0, 0, 3));
        check.bounds("next set -1", () -> x.next(0, -1));
        check.bounds("next set 4", () -> x.next(0, 4));
        check.argument("count -1", () -> x.count(0, -1));
        check.argument("count 6", () -> x.count(0, 6));
        check.due("the last place", x.line(0, 3, 2), -1);
    }

    private static void sets() {
        CacheLadder x = new CacheLadder();
        x.tier(4, 2, 0, 0, false);
        x.read(4 * 255);
        x.read(4 * 3 + 3);
        x.read(4 * 8);
        check.due("set 3", Check.set(x, 0, 3, 2), "255 3");
        check.due("set 0", Check.set(x, 0, 0, 2), "8 -1");
        check.due("set 1", Check.set(x, 0, 1, 2), "-1 -1");
        check.due("way of 3", x.way(0, 3), 1);
        check.due("way of 255", x.way(0, 255), 0);
        check.due("way of 7, same set", x.way(0, 7), -1);
        check.due("dirty of 3", x.dirty(0, 3), 0);
        check.due("dirty of 7", x.dirty(0, 7), -1);
        check.due("next of a full set", x.next(0, 3), 255);
        check.due("next of a set with room", x.next(0, 0), -1);
        check.due("astray()", x.astray(), 0);
    }
}
