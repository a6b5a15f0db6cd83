/**
 * The edges of the Terms' FETCHING, LEAVES and WRITE, and of promises 9 to 11: nothing, one and all
 * of the words and lines, in the first and the last tier, and lines that go before their turn.
 */
public final class GoingEdgesTest {
    private static final Check check = new Check("GoingEdgesTest");
    private static final int AGE = 0;
    private static final int USE = 1;
    private static final int CLOCK = 2;
    private static final int COUNT = 3;
    private static final int THROUGH = 0;
    private static final int BACK = 1;
    private static final int AROUND = 2;

    public static void main(String[] args) {
        flushOfNoDirtyWord();
        flushOfOneWord();
        flushOfAllWords();
        flushFromTierToTier();
        emptyOfCleanLines();
        emptyOfAllLines();
        emptyOfTheLastClosedTier();
        emptyOfTheFirstClosedTier();
        emptyLeavesTheHand();
        crashOfNoTiers();
        crashOfAllWords();
        crashCountsAWordOnce();
        crashCountsCleanWords();
        crashLeavesALadderAsNew();
        leavingWithNoneOneAndAllDirty();
        leavingTakesItsBlockAlone();
        leavingLeavesWhatIsBelow();
        uppermostOfThree();
        allFourWordsAndFewer();
        allFourWordsThatLeave();
        aroundWithAndWithoutLine();
        countsOfChosenLinesAlone();
        chosenLineGoesByItself();
        otherLineGoesWhileOneIsFetched();
        fiveHundredAndTwelveCalls();
        check.end();
    }

    private static CacheLadder ladder(int ways, int... writing) {
        CacheLadder x = new CacheLadder();
        for (int w : writing) {
            x.tier(1, ways, AGE, w, false);
        }
        return x;
    }

    private static void flushOfNoDirtyWord() {
        CacheLadder x = ladder(2, BACK, BACK, BACK, BACK);
        x.read(0);
        x.read(1020);
        for (int tier = 0; tier < 4; tier++) {
            check.due("flush of clean lines", x.flush(tier), 0);
            check.due("they stay", Check.set(x, tier, 0, 2), "0 255");
            check.due("no word written", x.count(tier, 5), 0);
        }
        check.due("no store", Check.traffic(x), "2 0");
    }

    private static void flushOfOneWord() {
        CacheLadder x = new CacheLadder();
        x.tier(16, 4, AGE, BACK, false);
        for (int block : new int[] {207, 223, 239, 255}) {
            x.read(4 * block);
        }
        x.write(1023, 8);
        check.due("flush of the last way's last word", x.flush(0), 1);
        check.due("it is stored", x.stored(1023), 8);
        check.due("one store", Check.traffic(x), "4 1");
        check.due("flush again", x.flush(0), 0);
    }

    private static void flushOfAllWords() {
        CacheLadder x = new CacheLadder();
        x.tier(16, 4, AGE, BACK, false);
        x.fill(0, 256, 1, 1);
        check.due("flush of all words", x.flush(0), 256);
        check.due("words written", Check.counts(x, 0), "0 0 0 64 0 256");
        check.due("a store each line", Check.traffic(x), "0 64");
        for (int set = 0; set < 16; set++) {
            check.due("stored word of set " + set, x.stored(4 * set + 3), 4 * set + 4);
            check.due("stored word of the last way", x.stored(4 * (set + 48)), 4 * (set + 48) + 1);
            check.due("the last way's line stays", x.line(0, set, 3), set + 48);
            check.due("clean", x.dirty(0, set + 48), 0);
        }
        check.due("flush again", x.flush(0), 0);
        check.due("empty of clean lines", x.empty(0), 64);
        check.due("no store more", Check.traffic(x), "0 64");
    }

    private static void flushFromTierToTier() {
        CacheLadder x = ladder(1, BACK, BACK, BACK, BACK);
        x.fill(1021, 3, 5, 1);
        for (int tier = 0; tier < 4; tier++) {
            check.due("not stored yet", x.stored(1023), 0);
            check.due("dirty in tier " + tier, x.dirty(tier, 255), 14);
            check.due("flush(" + tier + ")", x.flush(tier), 3);
            check.due("clean in tier " + tier, x.dirty(tier, 255), 0);
            check.due("words written by tier " + tier, x.count(tier, 5), 3);
        }
        check.due("stored by the last tier", x.stored(1023), 7);
        check.due("counts of the first tier", Check.counts(x, 0), "0 0 0 1 0 3");
        check.due("counts of the last tier", Check.counts(x, 3), "0 1 1 0 0 3");
        x.crash();
        check.due("counts of the first tier after a crash", Check.counts(x, 0), "0 0 0 1 0 3");
        check.due("counts of the last tier after a crash", Check.counts(x, 3), "0 1 1 0 0 3");
        check.due("the block's first word is left alone", x.stored(1020), 0);
        check.due("one store", Check.traffic(x), "1 1");
    }

    private static void emptyOfCleanLines() {
        CacheLadder x = ladder(4, BACK);
        x.read(0);
        x.read(1023);
        check.due("empty of clean lines", x.empty(0), 2);
        check.due("none stays", Check.set(x, 0, 0, 4), "-1 -1 -1 -1");
        check.due("no store, no word written", Check.traffic(x) + " " + x.count(0, 5), "2 0 0");
        check.due("empty again", x.empty(0), 0);
    }

    private static void emptyOfAllLines() {
        for (int tiers = 1; tiers <= 4; tiers++) {
            CacheLadder x = new CacheLadder();
            for (int tier = 0; tier < tiers; tier++) {
                x.tier(16, 4, tier, BACK, false);
            }
            x.fill(0, 256, 1, 1);
            for (int tier = 0; tier < tiers; tier++) {
                check.due("empty of 64 lines, tier " + tier, x.empty(tier), 64);
                check.due("empty again", x.empty(tier), 0);
                check.due("no line is chosen", x.count(tier, 4), 0);
                check.due("all words written", x.count(tier, 5), 256);
                check.due("last place", x.line(tier, 15, 3), -1);
            }
            check.due("a store each line", Check.traffic(x), "0 64");
            check.due("last word", x.stored(255), 256);
        }
    }

    /** A closed last tier takes all lines of the tiers above, with the uppermost dirty words. */
    private static void emptyOfTheLastClosedTier() {
        CacheLadder x = new CacheLadder();
        x.tier(2, 1, AGE, BACK, false);
        x.tier(1, 2, AGE, BACK, false);
        x.tier(4, 1, AGE, BACK, false);
        x.tier(1, 4, AGE, BACK, true);
        x.write(0, 1);
        x.write(5, 2);
        check.due("empty(3)", x.empty(3), 2);
        for (int tier = 0; tier < 4; tier++) {
            check.due("block 0 in tier " + tier, x.way(tier, 0), -1);
            check.due("block 1 in tier " + tier, x.way(tier, 1), -1);
            check.due("nothing left to leave", x.empty(tier), 0);
            check.due("words written by tier " + tier, x.count(tier, 5), tier == 3 ? 2 : 0);
        }
        check.due("stored(0)", x.stored(0), 1);
        check.due("stored(5)", x.stored(5), 2);
        check.due("astray()", x.astray(), 0);
    }

    private static void emptyOfTheFirstClosedTier() {
        CacheLadder x = new CacheLadder();
        x.tier(1, 2, AGE, BACK, true);
        x.tier(1, 2, AGE, BACK, false);
        x.write(0, 1);
        x.read(4);
        check.due("empty(0), nothing is above", x.empty(0), 2);
        check.due("tier 1 keeps its lines", Check.set(x, 1, 0, 2), "0 1");
        check.due("with the dirty word", x.dirty(1, 0), 1);
    }

    /** Only a crash sets the hand to 0: lines that leave by empty leave it where it is. */
    private static void emptyLeavesTheHand() {
        CacheLadder x = new CacheLadder();
        x.tier(2, 3, CLOCK, BACK, false);
        for (int block : new int[] {1, 3, 5, 7, 9}) {
            x.read(4 * block);
        }
        check.due("the hand is at 2", x.next(0, 1), 5);
        check.due("empty(0)", x.empty(0), 3);
        check.due("next of an emptied set", x.next(0, 1), -1);
        for (int block : new int[] {11, 13, 15}) {
            x.read(4 * block);
        }
        check.due("the hand is still at 2", x.next(0, 1), 15);
        x.crash();
        for (int block : new int[] {11, 13, 15}) {
            x.read(4 * block);
        }
        check.due("the hand is at 0", x.next(0, 1), 11);
    }

    private static void crashOfNoTiers() {
        CacheLadder x = new CacheLadder();
        check.due("crash of a new object", x.crash(), 0);
        x.fill(0, 1024, 5, 1);
        check.due("crash of the store alone", x.crash(), 0);
        check.due("the store is left", x.stored(1023), 1028);
        check.due("traffic is left", Check.traffic(x), "0 256");
    }

    private static void crashOfAllWords() {
        CacheLadder x = new CacheLadder();
        for (int tier = 0; tier < 4; tier++) {
            x.tier(16, 4, AGE, BACK, false);
        }
        // Blocks 0 .. 63 come to tier 3, 64 .. 127 to tier 2, and so on: 256 lines, all dirty.
        x.fill(0, 1024, 1, 1);
        check.due("dirty in the last tier", x.dirty(3, 0), 15);
        check.due("dirty in the first tier", x.dirty(0, 255), 15);
        check.due("nothing is stored", Check.traffic(x), "0 0");
        check.due("crash of all words", x.crash(), 1024);
        check.due("nothing was stored", Check.traffic(x), "0 0");
        check.due("peek(0)", x.peek(0), 0);
        check.due("peek(1023)", x.peek(1023), 0);
        check.due("crash again", x.crash(), 0);
    }

    private static void crashCountsAWordOnce() {
        CacheLadder x = ladder(1, BACK, BACK, BACK);
        x.write(0, 1);
        x.flush(0);
        x.write(0, 2);
        x.flush(1);
        x.flush(0);
        x.write(0, 3);
        check.due("dirty in three tiers", x.dirty(0, 0) + x.dirty(1, 0) + x.dirty(2, 0), 3);
        check.due("one word is lost", x.crash(), 1);
        x.write(0, 0);
        check.due("a dirty word that is as the store's", x.dirty(0, 0), 1);
        check.due("is not lost", x.crash(), 0);
    }

    private static void crashCountsCleanWords() {
        CacheLadder x = ladder(1, THROUGH, BACK);
        x.fill(0, 3, 4, 1);
        check.due("clean above", x.dirty(0, 0), 0);
        check.due("dirty below", x.dirty(1, 0), 7);
        x.empty(1);
        x.write(3, 9);
        check.due("clean above the dirty one", x.dirty(0, 0), 0);
        check.due("crash", x.crash(), 1);
        check.due("peek(0) is stored", x.peek(0), 4);
        check.due("peek(3) is lost", x.peek(3), 0);
    }

    /** "All lines of all tiers are lost, and hands are at 0": then all goes as in a new ladder. */
    private static void crashLeavesALadderAsNew() {
        CacheLadder used = mixed();
        used.fill(0, 300, 1, 1);
        used.run(7, 200, 512);
        used.run(8, 200, 64);
        used.crash();
        CacheLadder fresh = mixed();
        for (int step = 0; step < 10; step++) {
            dueSameLines(used, fresh);
            used.run(step, 20, 100 + 100 * step);
            fresh.run(step, 20, 100 + 100 * step);
        }
    }

    private static CacheLadder mixed() {
        CacheLadder x = new CacheLadder();
        x.tier(1, 3, CLOCK, BACK, false);
        x.tier(1, 4, COUNT, BACK, false);
        x.tier(2, 3, CLOCK, AROUND, false);
        x.tier(2, 4, USE, THROUGH, true);
        return x;
    }

    private static void dueSameLines(CacheLadder used, CacheLadder fresh) {
        int[] sets = {1, 1, 2, 2};
        int[] ways = {3, 4, 3, 4};
        for (int tier = 0; tier < 4; tier++) {
            for (int set = 0; set < sets[tier]; set++) {
                check.due("lines after crash", Check.set(used, tier, set, ways[tier]),
                        Check.set(fresh, tier, set, ways[tier]));
                check.due("next after crash", used.next(tier, set), fresh.next(tier, set));
            }
        }
    }

    /** "if some of its words are dirty": none is no WRITE, one and four are one each. */
    private static void leavingWithNoneOneAndAllDirty() {
        for (int words = 0; words <= 4; words++) {
            CacheLadder x = ladder(1, BACK, BACK);
            x.read(0);
            for (int i = 0; i < words; i++) {
                x.write(3 - i, 9);
            }
            x.read(4);
            check.due("words that left", x.count(0, 5), words);
            check.due("one WRITE, if any", x.count(1, 2) + x.count(1, 3), words > 0 ? 1 : 0);
            check.due("an eviction", x.count(0, 4), 1);
            check.due("it is gone", x.way(0, 0), -1);
        }
    }

    /** A closed tier's line takes those of its own block along; others stay. */
    private static void leavingTakesItsBlockAlone() {
        CacheLadder x = new CacheLadder();
        x.tier(1, 4, AGE, BACK, false);
        x.tier(1, 4, AGE, BACK, false);
        x.tier(1, 4, AGE, BACK, false);
        x.tier(2, 2, AGE, BACK, true);
        for (int block : new int[] {0, 1, 2, 3}) {
            x.write(4 * block, block + 1);
        }
        x.read(4 * 4);
        for (int tier = 0; tier < 3; tier++) {
            check.due("block 0 went, tier " + tier, Check.set(x, tier, 0, 4), "4 1 2 3");
        }
        check.due("set 0 of the closed tier", Check.set(x, 3, 0, 2), "4 2");
        check.due("set 1 of the closed tier", Check.set(x, 3, 1, 2), "1 3");
        check.due("its word is stored", x.stored(0), 1);
        check.due("no other is", x.stored(4) + x.stored(8) + x.stored(12), 0);
        check.due("evictions of the closed tier", x.count(3, 4), 1);
        check.due("astray()", x.astray(), 0);
    }

    private static void leavingLeavesWhatIsBelow() {
        CacheLadder x = new CacheLadder();
        x.tier(1, 2, AGE, BACK, false);
        x.tier(1, 2, AGE, BACK, true);
        x.tier(1, 2, AGE, BACK, false);
        x.write(0, 1);
        check.due("empty(1)", x.empty(1), 1);
        check.due("gone above", x.way(0, 0), -1);
        check.due("there below", x.way(2, 0), 0);
        check.due("dirty below", x.dirty(2, 0), 1);
        check.due("nothing stored", x.stored(0), 0);
    }

    /** "of several the uppermost one's", with the word dirty in each of the four tiers. */
    private static void uppermostOfThree() {
        for (int newest = 0; newest < 4; newest++) {
            CacheLadder x = new CacheLadder();
            for (int tier = 0; tier < 4; tier++) {
                x.tier(1, 1, AGE, BACK, tier == 3);
            }
            int value = 10;
            // From the last tier on, each one gets a newer value than the one below it.
            for (int tier = 3; tier >= newest; tier--) {
                value++;
                x.write(2, value);
                for (int above = 0; above < tier; above++) {
                    x.flush(above);
                }
            }
            for (int tier = 0; tier < 4; tier++) {
                check.due("dirty in tier " + tier, x.dirty(tier, 0), tier >= newest ? 4 : 0);
            }
            check.due("empty(3)", x.empty(3), 1);
            check.due("the uppermost word", x.stored(2), value);
            check.due("one store", x.traffic(true), 1);
            check.due("one word", x.count(3, 5), 1);
        }
    }

    /** "nothing is read below if all four words are written, and no tier below is closed". */
    private static void allFourWordsAndFewer() {
        for (int closed = -1; closed < 4; closed++) {
            for (int writing : new int[] {THROUGH, BACK}) {
                int loads = closed > 0 ? 1 : 0;
                check.due("loads of four words, closed " + closed, loadsOfFill(closed, writing, 4), loads);
                check.due("loads of three words, closed " + closed, loadsOfFill(closed, writing, 3), 1);
                check.due("loads of one word, closed " + closed, loadsOfFill(closed, writing, 1), 1);
            }
        }
    }

    private static int loadsOfFill(int closed, int writing, int n) {
        CacheLadder x = new CacheLadder();
        for (int tier = 0; tier < 4; tier++) {
            x.tier(1, 2, AGE, writing, tier == closed);
        }
        x.fill(1020, n, 1, 1);
        check.due("a write miss", x.count(0, 3), 1);
        check.due("the first word", x.peek(1020), 1);
        check.due("the last word", x.peek(1023), n == 4 ? 4 : 0);
        check.due("astray()", x.astray(), 0);
        return x.traffic(false);
    }

    /** The same where the four words come from a line that left. */
    private static void allFourWordsThatLeave() {
        for (int closed = -1; closed < 3; closed++) {
            CacheLadder x = new CacheLadder();
            x.tier(1, 1, AGE, BACK, closed == 0);
            x.tier(1, 1, AGE, BACK, closed == 1);
            x.tier(1, 4, AGE, BACK, closed == 2);
            x.fill(0, 4, 1, 1);
            if (closed != 1) {
                x.empty(1);
            }
            x.fill(4, 4, 1, 1);
            boolean readAbove = closed > 0;
            check.due("block 0 left tier 0, closed " + closed, x.way(0, 0), -1);
            check.due("loads, closed " + closed, x.traffic(false), readAbove ? 2 : 0);
            check.due("hits of tier 2, closed " + closed, x.count(2, 0), closed == 2 ? 1 : 0);
            check.due("astray()", x.astray(), 0);
        }
    }

    /** AROUND: "if the block is there, its line LEAVES; then the words are written .. below". */
    private static void aroundWithAndWithoutLine() {
        for (int tiers = 1; tiers <= 4; tiers++) {
            CacheLadder x = new CacheLadder();
            for (int tier = 0; tier < tiers; tier++) {
                x.tier(1, 1, AGE, AROUND, tier == 0);
            }
            x.fill(1020, 4, 1, 1);
            x.write(1023, 9);
            check.due("two stores, no load", Check.traffic(x), "0 2");
            x.read(1020);
            x.write(1022, 8);
            x.write(1021, 7);
            for (int tier = 0; tier < tiers; tier++) {
                check.due("no line in tier " + tier, x.line(tier, 0, 0), -1);
                check.due("each write is a write miss", Check.counts(x, tier), "0 1 0 4 0 7");
            }
            check.due("stores and loads", Check.traffic(x), "1 4");
            check.due("stored", x.stored(1020) + x.stored(1021) + x.stored(1022) + x.stored(1023), 25);
        }
    }

    /** "4 evictions (chosen lines alone)": not what leaves by empty, AROUND or a closed tier. */
    private static void countsOfChosenLinesAlone() {
        CacheLadder x = new CacheLadder();
        x.tier(1, 2, AGE, AROUND, false);
        x.tier(1, 2, AGE, BACK, true);
        x.read(0);
        x.write(0, 1);
        check.due("a line that left by AROUND", x.way(0, 0), -1);
        x.read(0);
        x.read(4);
        x.empty(1);
        check.due("lines that a closed tier took", Check.set(x, 0, 0, 2), "-1 -1");
        check.due("no evictions", x.count(0, 4) + x.count(1, 4), 0);
        x.read(0);
        x.read(4);
        x.read(8);
        check.due("one chosen line each", x.count(0, 4) + " " + x.count(1, 4), "1 1");
    }

    /** A chosen line whose dirty word makes a closed AROUND tier's line leave, which takes it. */
    private static void chosenLineGoesByItself() {
        CacheLadder x = new CacheLadder();
        x.tier(1, 1, AGE, BACK, false);
        x.tier(1, 2, AGE, AROUND, true);
        x.write(0, 5);
        x.read(4);
        check.due("tier 0 has the new line", x.line(0, 0, 0), 1);
        check.due("tier 1 has it at the least way", Check.set(x, 1, 0, 2), "1 -1");
        check.due("the word was written once", Check.traffic(x), "2 1");
        check.due("stored", x.stored(0), 5);
        check.due("counts of tier 0", Check.counts(x, 0), "0 1 0 1 1 1");
        check.due("counts of tier 1", Check.counts(x, 1), "0 2 0 1 0 1");
    }

    /** The least way without a line was found before a lesser one lost its line. */
    private static void otherLineGoesWhileOneIsFetched() {
        CacheLadder x = new CacheLadder();
        x.tier(1, 3, AGE, BACK, false);
        x.tier(1, 2, AGE, BACK, true);
        x.write(0, 5);
        x.read(4);
        x.read(8);
        check.due("block 0 went for block 2", Check.set(x, 0, 0, 3), "-1 1 2");
        check.due("its dirty word is stored", x.stored(0), 5);
        check.due("no line was chosen in tier 0", x.count(0, 4), 0);
        x.read(12);
        check.due("block 1 went for block 3", Check.set(x, 0, 0, 3), "3 -1 2");
        check.due("next with a way free", x.next(0, 0), -1);
        check.due("tier 1", Check.set(x, 1, 0, 2), "2 3");
        check.due("astray()", x.astray(), 0);
    }

    /** "An object is used for at most 512 calls": the last of the dearest ones is right, too. */
    private static void fiveHundredAndTwelveCalls() {
        CacheLadder x = new CacheLadder();
        for (int tier = 0; tier < 4; tier++) {
            x.tier(16, 4, tier, THROUGH, true);
        }
        for (int call = 5; call <= 508; call++) {
            x.fill(0, 1024, call, 1);
        }
        check.due("write misses of 504 fills", x.count(0, 3), 504 * 256);
        check.due("words of 504 fills", x.count(3, 5), 504 * 1024);
        check.due("stores of 504 fills", x.traffic(true), 504 * 256);
        check.due("the 512th call", x.stored(1023), 508 + 1023);
    }
}
