/** The edges of promises 1 and 3 to 8 in ladders without tiers, with one and with four. */
public final class WordEdgesTest {
    private static final Check check = new Check("WordEdgesTest");
    private static final int LEAST = Integer.MIN_VALUE;
    private static final int MOST = Integer.MAX_VALUE;
    private static final int BACK = 1;
    private static final int[] HEIGHTS = {0, 1, 4};

    public static void main(String[] args) {
        for (int tiers : HEIGHTS) {
            allWordsAreZero(tiers);
            firstAndLastWord(tiers);
            firstAndLastValue(tiers);
            wordsOfABlock(tiers);
            fillsToTheLastWord(tiers);
            fillOfAllWords(tiers);
            fillsThatGoRound(tiers);
            runsOfEveryLength(tiers);
            runsOfEverySpan(tiers);
            runsFromEdges(tiers);
            sumGoesRound(tiers);
        }
        bitsOfEachFill();
        fillGoesUpwards();
        runReachesFirstAndLastWord();
        runNumbersAreUnsigned();
        check.end();
    }

    /** Small tiers of all kinds that lose no newest word, so that lines leave all the time. */
    private static Scene ladder(int tiers) {
        Scene scene = new Scene(tiers + " tiers");
        for (int tier = 0; tier < tiers; tier++) {
            scene.tier(1 << tier, 1 + tier, 3 - tier, tier == 2 ? 2 : 1 - tier % 2, tier == 3);
        }
        return scene;
    }

    private static String at(int tiers, String what) {
        return tiers + " tiers: " + what;
    }

    /** "No tiers, a store of 0s": each of the 1024 words, read, peeked and stored. */
    private static void allWordsAreZero(int tiers) {
        Scene scene = ladder(tiers);
        for (int word = 0; word < 1024; word++) {
            check.due(at(tiers, "new peek(" + word + ")"), scene.one().peek(word), 0);
            check.due(at(tiers, "new stored(" + word + ")"), scene.one().stored(word), 0);
            check.due(at(tiers, "new read(" + word + ")"), scene.one().read(word), 0);
        }
        check.due(at(tiers, "new tiers()"), scene.made().tiers(), tiers);
    }

    /** Words are 0 .. 1023: the first and the last are there, and no other word has their values. */
    private static void firstAndLastWord(int tiers) {
        Scene scene = ladder(tiers).access(x -> x.write(0, -8)).access(x -> x.write(1023, 9));
        for (int word = 0; word < 1024; word++) {
            int due = word == 0 ? -8 : word == 1023 ? 9 : 0;
            check.due(at(tiers, "peek(" + word + ")"), scene.one().peek(word), due);
        }
        CacheLadder x = scene.made();
        check.due(at(tiers, "read(0)"), x.read(0), -8);
        check.due(at(tiers, "read(1023)"), x.read(1023), 9);
        check.due(at(tiers, "read(1)"), x.read(1), 0);
        check.due(at(tiers, "read(1022)"), x.read(1022), 0);
        emptyAll(x);
        check.due(at(tiers, "stored(0)"), x.stored(0), -8);
        check.due(at(tiers, "stored(1023)"), x.stored(1023), 9);
        check.due(at(tiers, "stored(1)"), x.stored(1), 0);
        check.due(at(tiers, "stored(1022)"), x.stored(1022), 0);
    }

    private static void emptyAll(CacheLadder x) {
        for (int tier = 0; tier < x.tiers(); tier++) {
            x.empty(tier);
        }
    }

    /** Words are ints: the smallest and the largest one are kept as they are. */
    private static void firstAndLastValue(int tiers) {
        CacheLadder x = ladder(tiers).made();
        x.write(6, LEAST);
        x.write(7, MOST);
        check.due(at(tiers, "peek of the least"), x.peek(6), LEAST);
        check.due(at(tiers, "peek of the most"), x.peek(7), MOST);
        emptyAll(x);
        check.due(at(tiers, "read of the least"), x.read(6), LEAST);
        check.due(at(tiers, "read of the most"), x.read(7), MOST);
        check.due(at(tiers, "stored of the least"), x.stored(6), LEAST);
        check.due(at(tiers, "stored of the most"), x.stored(7), MOST);
    }

    /** "BLOCK b, 0 .. 255, has the words 4 b to 4 b + 3": one more word is the next block's. */
    private static void wordsOfABlock(int tiers) {
        for (int block : new int[] {0, 1, 254, 255}) {
            for (int i = 0; i < 4; i++) {
                CacheLadder x = ladder(tiers).made();
                x.write(4 * block + i, 5);
                for (int tier = 0; tier < tiers; tier++) {
                    // Tier 2 is AROUND: it has the block from the read below tier 0.
                    check.due(at(tiers, "block of word " + (4 * block + i)), x.way(tier, block), 0);
                }
                x.fill(0, 1, 5, 0);
                x.read(4 * block + 3 - i);
                check.due(at(tiers, "read again"), x.peek(4 * block + i), 5);
            }
        }
    }

    private static void dueFilled(int tiers, int word, int n, int value, int step) {
        String call = at(tiers, "fill(" + word + ", " + n + ", " + value + ", " + step + ")");
        Scene scene = ladder(tiers).access(x -> x.fill(word, n, value, step));
        int due = value;
        for (int w = 0; w < 1024; w++) {
            boolean filled = w >= word && w < word + n;
            check.due(call + " peek(" + w + ")", scene.one().peek(w), filled ? due : 0);
            due += filled ? step : 0;
        }
    }

    /** "n is below 1" and "or the last one": n 1 and a last word 1023 are still allowed. */
    private static void fillsToTheLastWord(int tiers) {
        for (int word : new int[] {0, 1, 1020, 1021, 1022, 1023}) {
            dueFilled(tiers, word, 1, 3, 7);
            dueFilled(tiers, word, 1024 - word, 3, 7);
        }
        dueFilled(tiers, 0, 4, 3, 7);
        dueFilled(tiers, 3, 2, 3, 7);
    }

    private static void fillOfAllWords(int tiers) {
        CacheLadder x = ladder(tiers).made();
        x.fill(0, 1024, 1, 2);
        int writes = tiers == 0 ? x.traffic(true) : x.count(0, 3);
        check.due(at(tiers, "a write each of 256 blocks"), writes, 256);
        check.due(at(tiers, "first word"), x.read(0), 1);
        check.due(at(tiers, "last word"), x.read(1023), 2047);
    }

    /** The numbers of promise 5 go round as Java's ints do. */
    private static void fillsThatGoRound(int tiers) {
        dueFilled(tiers, 2, 7, MOST, 1);
        dueFilled(tiers, 2, 7, LEAST, -1);
        dueFilled(tiers, 2, 7, -1, MOST);
        dueFilled(tiers, 2, 7, 1, LEAST);
        dueFilled(tiers, 2, 7, 5, 0);
        dueFilled(tiers, 0, 1024, MOST, MOST);
        dueFilled(tiers, 0, 1024, LEAST, LEAST + 1);
    }

    /** "of each block that has some of them .. these in one WRITE": all four words, and fewer. */
    private static void bitsOfEachFill() {
        for (int word = 4; word < 8; word++) {
            for (int n = 1; n <= 12; n++) {
                CacheLadder x = new CacheLadder();
                x.tier(8, 1, 0, BACK, false);
                x.fill(word, n, 1, 1);
                dueBits(x, word, n);
            }
        }
    }

    private static void dueBits(CacheLadder x, int word, int n) {
        String call = "fill(" + word + ", " + n + ")";
        int writes = 0;
        int loads = 0;
        for (int block = 0; block < 8; block++) {
            int bits = 0;
            for (int i = 0; i < 4; i++) {
                int at = 4 * block + i;
                bits |= at >= word && at < word + n ? 1 << i : 0;
            }
            check.due(call + " dirty(0, " + block + ")", x.dirty(0, block), bits == 0 ? -1 : bits);
            writes += bits != 0 ? 1 : 0;
            loads += bits != 0 && bits != 15 ? 1 : 0;
        }
        check.due(call + " write misses", Check.counts(x, 0), "0 0 0 " + writes + " 0 0");
        check.due(call + " reads what is not all written", Check.traffic(x), loads + " 0");
    }

    /** "from the least one on": the least block is placed first, and goes first. */
    private static void fillGoesUpwards() {
        CacheLadder x = new CacheLadder();
        x.tier(1, 4, 0, BACK, false);
        x.fill(5, 14, 1, 1);
        check.due("fill by blocks", Check.set(x, 0, 0, 4), "1 2 3 4");
        check.due("the least is the eldest", x.next(0, 0), 1);
        x.fill(1011, 13, 1, 1);
        check.due("fill of the last blocks", Check.set(x, 0, 0, 4), "252 253 254 255");
    }

    /** The row of promise 6 in longs, cut to 32 bits by hand, over a plain array of words. */
    private static final class Row {
        final int[] words = new int[1024];
        long wholeSum;
        int reads;
        int writes;

        int run(int seed, int n, int span) {
            long x = seed & 0xFFFFFFFFL;
            int sum = 0;
            for (int i = 0; i < n; i++) {
                x = (x * 1103515245L + 12345L) & 0xFFFFFFFFL;
                int word = (int) ((x >> 8) % span);
                if ((x >> 20) % 4 == 0) {
                    words[word] = (int) x;
                    writes++;
                } else {
                    sum += words[word];
                    wholeSum += words[word];
                    reads++;
                }
            }
            return sum;
        }
    }

    private static Row dueRun(int tiers, int seed, int n, int span) {
        String call = at(tiers, "run(" + seed + ", " + n + ", " + span + ")");
        Row row = new Row();
        Scene scene = ladder(tiers).access(x -> x.fill(0, span, 77, 1000003));
        for (int word = 0; word < span; word++) {
            row.words[word] = 77 + word * 1000003;
        }
        check.due(call, scene.made().run(seed, n, span), row.run(seed, n, span));
        scene.access(x -> x.run(seed, n, span));
        for (int word = 0; word < 1024; word++) {
            check.due(call + " peek(" + word + ")", scene.one().peek(word), row.words[word]);
        }
        return row;
    }

    private static void dueAccesses(int tiers, int seed, int n, int span, Row row) {
        CacheLadder x = ladder(tiers).made();
        x.run(seed, n, span);
        int reads = tiers == 0 ? x.traffic(false) : x.count(0, 0) + x.count(0, 1);
        int writes = tiers == 0 ? x.traffic(true) : x.count(0, 2) + x.count(0, 3);
        check.due(at(tiers, n + " accesses of run, reads"), reads, row.reads);
        check.due(at(tiers, n + " accesses of run, writes"), writes, row.writes);
    }

    /** "n is not 0 .. 200": 0, 1 and 200 accesses are allowed, and all are made. */
    private static void runsOfEveryLength(int tiers) {
        for (int n : new int[] {0, 1, 2, 199, 200}) {
            for (int seed = 1; seed < 6; seed++) {
                dueAccesses(tiers, seed, n, 1024, dueRun(tiers, seed, n, 1024));
            }
        }
    }

    /** "span not 1 .. 1024": with 1 there is just word 0, with 1024 there are all. */
    private static void runsOfEverySpan(int tiers) {
        for (int span : new int[] {1, 2, 3, 5, 1000, 1023, 1024}) {
            dueAccesses(tiers, 9, 200, span, dueRun(tiers, 9, 200, span));
        }
    }

    private static void runsFromEdges(int tiers) {
        for (int seed : new int[] {LEAST, LEAST + 1, -1, 0, 1, MOST}) {
            dueAccesses(tiers, seed, 200, 64, dueRun(tiers, seed, 200, 64));
        }
    }

    /** "The sum of all words that were read" goes round. */
    private static void sumGoesRound(int tiers) {
        int over = 0;
        int under = 0;
        for (int seed = 0; seed < 12; seed++) {
            Row row = dueRun(tiers, seed, 200, 7);
            over += row.wholeSum > MOST ? 1 : 0;
            under += row.wholeSum < LEAST ? 1 : 0;
        }
        check.due(at(tiers, "some sums are too large"), over > 0 ? 1 : 0, 1);
        check.due(at(tiers, "some sums are too small"), under > 0 ? 1 : 0, 1);
    }

    /** The seed whose first access writes the word, if it is to write, or else reads it. */
    private static int seedFor(int word, boolean writes) {
        for (int seed = 0; seed < 1000000; seed++) {
            int x = seed * 1103515245 + 12345;
            if ((x >>> 8) % 1024 == word && ((x >>> 20) % 4 == 0) == writes) {
                return seed;
            }
        }
        throw new IllegalStateException("no seed found");
    }

    private static void runReachesFirstAndLastWord() {
        for (int word : new int[] {0, 1023}) {
            CacheLadder x = new CacheLadder();
            int seed = seedFor(word, true);
            check.due("a run of one write", x.run(seed, 1, 1024), 0);
            check.due("it is of word " + word, x.stored(word), seed * 1103515245 + 12345);
            int sum = x.run(seedFor(word, false), 1, 1024);
            check.due("a run of one read of word " + word, sum, seed * 1103515245 + 12345);
            check.due("one load, one store", Check.traffic(x), "1 1");
        }
    }

    /** "x >>> 8" and "x >>> 20" are not below 0 where x is. */
    private static void runNumbersAreUnsigned() {
        int negative = 0;
        for (int seed = 0; seed < 40; seed++) {
            int x = seed * 1103515245 + 12345;
            negative += x < 0 ? 1 : 0;
            CacheLadder ladder = new CacheLadder();
            ladder.fill(0, 1000, 1, 1);
            long word = ((x & 0xFFFFFFFFL) >> 8) % 1000;
            boolean writes = ((x & 0xFFFFFFFFL) >> 20) % 4 == 0;
            check.due("run of one from " + seed, ladder.run(seed, 1, 1000), writes ? 0 : word + 1);
            check.due("its word", ladder.stored((int) word), writes ? x : word + 1);
        }
        check.due("some numbers are below 0", negative > 0 && negative < 40 ? 1 : 0, 1);
    }
}
