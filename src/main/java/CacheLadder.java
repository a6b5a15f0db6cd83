/**
 * Tiers of a cache one below the other over a store of 1024 words.
 *
 * A level is the number of a tier, or, just below the last tier, the store. What happens at a
 * level only ever asks levels below it, so every chain of calls ends at the store.
 */
public final class CacheLadder {
    private static final int WORDS = 1024;
    private static final int BLOCK_WORDS = 4;
    private static final int BLOCKS = 256;
    private static final int ALL_WORDS = 15;
    private static final int NONE = -1;

    private static final int MOST_TIERS = 4;
    private static final int MOST_SETS = 16;
    private static final int MOST_WAYS = 4;
    private static final int MOST_ACCESSES = 200;

    private static final int USE = 1;
    private static final int CLOCK = 2;
    private static final int COUNT = 3;

    private static final int BACK = 1;
    private static final int AROUND = 2;

    private static final int HITS = 0;
    private static final int MISSES = 1;
    private static final int WRITE_HITS = 2;
    private static final int WRITE_MISSES = 3;
    private static final int EVICTIONS = 4;
    private static final int WORDS_BELOW = 5;
    private static final int COUNTS = 6;

    private final int[] store = new int[WORDS];
    private final Tier[] ladder = new Tier[MOST_TIERS];
    private final int[] answered = new int[BLOCK_WORDS];
    private final int[] given = new int[BLOCK_WORDS];
    private int height;
    private int loadCount;
    private int storeCount;
    private boolean accessed;

    /** One place of a set: it holds a line while it has a block. */
    private static final class Line {
        final int[] words = new int[BLOCK_WORDS];
        int block = NONE;
        int dirtyBits;
        int placedAt;
        int usedAt;
        int uses;
        boolean marked;

        boolean isThere() {
            return block != NONE;
        }

        void go() {
            block = NONE;
            dirtyBits = 0;
        }
    }

    /** One tier: its lines, what they are chosen by, and its counts. */
    private static final class Tier {
        final int sets;
        final int ways;
        final int choosing;
        final int writing;
        final boolean closed;
        final Line[] lines;
        final int[] hands;
        final int[] counts = new int[COUNTS];
        int time;

        Tier(int sets, int ways, int choosing, int writing, boolean closed) {
            this.sets = sets;
            this.ways = ways;
            this.choosing = choosing;
            this.writing = writing;
            this.closed = closed;
            lines = new Line[sets * ways];
            for (int i = 0; i < lines.length; i++) {
                lines[i] = new Line();
            }
            hands = new int[sets];
        }

        int setOf(int block) {
            // The rest by the sets: they are a power of two, so no division is needed.
            return block & (sets - 1);
        }

        Line at(int set, int way) {
            return lines[set * ways + way];
        }

        int wayOf(int block) {
            int set = setOf(block);
            for (int way = 0; way < ways; way++) {
                if (at(set, way).block == block) {
                    return way;
                }
            }
            return NONE;
        }

        Line find(int block) {
            int way = wayOf(block);
            return way == NONE ? null : at(setOf(block), way);
        }

        Line freeIn(int set) {
            for (int way = 0; way < ways; way++) {
                if (!at(set, way).isThere()) {
                    return at(set, way);
                }
            }
            return null;
        }

        Line choose(int set) {
            return choosing == CLOCK ? turnHand(set) : firstToGo(set);
        }

        /** The line that choose would answer, with the hand and the marks left alone. */
        Line foresee(int set) {
            return choosing == CLOCK ? aheadOfHand(set) : firstToGo(set);
        }

        private Line firstToGo(int set) {
            Line first = at(set, 0);
            for (int way = 1; way < ways; way++) {
                if (goesBefore(at(set, way), first)) {
                    first = at(set, way);
                }
            }
            return first;
        }

        private boolean goesBefore(Line line, Line other) {
            if (choosing == USE) {
                return line.usedAt < other.usedAt;
            }
            if (choosing == COUNT && line.uses != other.uses) {
                return line.uses < other.uses;
            }
            return line.placedAt < other.placedAt;
        }

        private Line turnHand(int set) {
            Line chosen = at(set, hands[set]);
            // After one round no mark is left, so the hand stops within ways + 1 steps.
            for (int step = 0; step <= ways; step++) {
                chosen = at(set, hands[set]);
                hands[set] = wayAfter(hands[set]);
                if (!chosen.marked) {
                    break;
                }
                chosen.marked = false;
            }
            return chosen;
        }

        private Line aheadOfHand(int set) {
            int way = hands[set];
            for (int step = 0; step < ways; step++) {
                if (!at(set, way).marked) {
                    break;
                }
                way = wayAfter(way);
            }
            // With all lines marked the round has come back to the hand.
            return at(set, way);
        }

        private int wayAfter(int way) {
            return way + 1 < ways ? way + 1 : 0;
        }

        void place(Line line, int block) {
            line.block = block;
            line.dirtyBits = 0;
            line.uses = 0;
            noteUse(line);
            line.placedAt = time;
        }

        void noteUse(Line line) {
            time++;
            line.usedAt = time;
            line.uses++;
            line.marked = true;
        }

        void lose() {
            for (int i = 0; i < lines.length; i++) {
                lines[i].go();
            }
            for (int set = 0; set < sets; set++) {
                hands[set] = 0;
            }
        }
    }

    public CacheLadder() {
    }

    public int tier(int sets, int ways, int choosing, int writing, boolean closed)
            throws IllegalArgumentException, UnsupportedOperationException, IllegalStateException {
        if (!isSets(sets) || ways < 1 || ways > MOST_WAYS) {
            throw new IllegalArgumentException("no such sets or ways");
        }
        if (choosing < 0 || choosing > COUNT || writing < 0 || writing > AROUND) {
            throw new IllegalArgumentException("no such choosing or writing");
        }
        if (height >= MOST_TIERS) {
            throw new UnsupportedOperationException("there are four tiers");
        }
        if (accessed) {
            throw new IllegalStateException("a word was read or written before");
        }
        ladder[height] = new Tier(sets, ways, choosing, writing, closed);
        height++;
        return height - 1;
    }

    public int read(int word) throws IndexOutOfBoundsException {
        needWord(word);
        return readWord(word);
    }

    public void write(int word, int value) throws IndexOutOfBoundsException {
        needWord(word);
        writeWord(word, value);
    }

    public void fill(int word, int n, int value, int step)
            throws IllegalArgumentException, IndexOutOfBoundsException {
        if (n < 1) {
            throw new IllegalArgumentException("fewer than one word");
        }
        needWord(word);
        // Not word + n, which could wrap around.
        if (n > WORDS - word) {
            throw new IndexOutOfBoundsException("no such last word");
        }
        accessed = true;
        int last = word + n - 1;
        for (int block = blockOf(word); block <= blockOf(last); block++) {
            int bits = 0;
            for (int i = 0; i < BLOCK_WORDS; i++) {
                int at = block * BLOCK_WORDS + i;
                if (at >= word && at <= last) {
                    bits |= 1 << i;
                    given[i] = value + (at - word) * step;
                }
            }
            writeAt(0, block, bits, given);
        }
    }

    public int run(int seed, int n, int span) throws IllegalArgumentException {
        if (n < 0 || n > MOST_ACCESSES) {
            throw new IllegalArgumentException("no such number of accesses");
        }
        if (span < 1 || span > WORDS) {
            throw new IllegalArgumentException("no such span");
        }
        int x = seed;
        int sum = 0;
        for (int i = 0; i < n; i++) {
            x = x * 1103515245 + 12345;
            int word = (x >>> 8) % span;
            if ((x >>> 20) % 4 == 0) {
                writeWord(word, x);
            } else {
                sum += readWord(word);
            }
        }
        return sum;
    }

    public int peek(int word) throws IndexOutOfBoundsException {
        needWord(word);
        Line line = uppermost(blockOf(word));
        return line == null ? store[word] : line.words[word % BLOCK_WORDS];
    }

    public int stored(int word) throws IndexOutOfBoundsException {
        needWord(word);
        return store[word];
    }

    public int flush(int tier) throws IndexOutOfBoundsException {
        needTier(tier);
        Line[] lines = ladder[tier].lines;
        int words = 0;
        for (int i = 0; i < lines.length; i++) {
            if (lines[i].isThere()) {
                words += writeDirty(tier, lines[i]);
            }
        }
        return words;
    }

    public int empty(int tier) throws IndexOutOfBoundsException {
        needTier(tier);
        Line[] lines = ladder[tier].lines;
        int left = 0;
        for (int i = 0; i < lines.length; i++) {
            if (lines[i].isThere()) {
                leave(tier, lines[i]);
                left++;
            }
        }
        return left;
    }

    public int crash() {
        int lost = 0;
        for (int block = 0; block < BLOCKS; block++) {
            Line line = uppermost(block);
            if (line != null) {
                lost += wordsUnlikeStore(line);
            }
        }
        for (int level = 0; level < height; level++) {
            ladder[level].lose();
        }
        return lost;
    }

    public int count(int tier, int what)
            throws IndexOutOfBoundsException, IllegalArgumentException {
        needTier(tier);
        if (what < 0 || what >= COUNTS) {
            throw new IllegalArgumentException("no such count");
        }
        return ladder[tier].counts[what];
    }

    public int traffic(boolean stores) {
        return stores ? storeCount : loadCount;
    }

    public int line(int tier, int set, int way) throws IndexOutOfBoundsException {
        needSet(tier, set);
        if (way < 0 || way >= ladder[tier].ways) {
            throw new IndexOutOfBoundsException("no such way");
        }
        return ladder[tier].at(set, way).block;
    }

    public int way(int tier, int block) throws IndexOutOfBoundsException {
        needBlock(tier, block);
        return ladder[tier].wayOf(block);
    }

    public int dirty(int tier, int block) throws IndexOutOfBoundsException {
        needBlock(tier, block);
        Line line = ladder[tier].find(block);
        return line == null ? NONE : line.dirtyBits;
    }

    public int next(int tier, int set) throws IndexOutOfBoundsException {
        needSet(tier, set);
        if (ladder[tier].freeIn(set) != null) {
            return NONE;
        }
        return ladder[tier].foresee(set).block;
    }

    public int tiers() {
        return height;
    }

    public int astray() {
        int wrong = 0;
        for (int level = 0; level < height; level++) {
            Line[] lines = ladder[level].lines;
            for (int i = 0; i < lines.length; i++) {
                if (lines[i].isThere() && standsWrong(level, lines[i])) {
                    wrong++;
                }
            }
        }
        return wrong;
    }

    private static boolean isSets(int sets) {
        return sets >= 1 && sets <= MOST_SETS && Integer.bitCount(sets) == 1;
    }

    private static void needWord(int word) {
        if (word < 0 || word >= WORDS) {
            throw new IndexOutOfBoundsException("no such word");
        }
    }

    private void needTier(int level) {
        if (level < 0 || level >= height) {
            throw new IndexOutOfBoundsException("no such tier");
        }
    }

    private void needSet(int level, int set) {
        needTier(level);
        if (set < 0 || set >= ladder[level].sets) {
            throw new IndexOutOfBoundsException("no such set");
        }
    }

    private void needBlock(int level, int block) {
        needTier(level);
        if (block < 0 || block >= BLOCKS) {
            throw new IndexOutOfBoundsException("no such block");
        }
    }

    private static int blockOf(int word) {
        return word / BLOCK_WORDS;
    }

    private static void copyWords(int bits, int[] from, int[] to, int start) {
        for (int i = 0; i < BLOCK_WORDS; i++) {
            if ((bits & (1 << i)) != 0) {
                to[start + i] = from[i];
            }
        }
    }

    private int readWord(int word) {
        accessed = true;
        readAt(0, blockOf(word), answered);
        return answered[word % BLOCK_WORDS];
    }

    private void writeWord(int word, int value) {
        accessed = true;
        given[word % BLOCK_WORDS] = value;
        writeAt(0, blockOf(word), 1 << (word % BLOCK_WORDS), given);
    }

    /** The line of a block that has its newest words, if any: all writes come from above. */
    private Line uppermost(int block) {
        for (int level = 0; level < height; level++) {
            Line line = ladder[level].find(block);
            if (line != null) {
                return line;
            }
        }
        return null;
    }

    private int wordsUnlikeStore(Line line) {
        int unlike = 0;
        for (int i = 0; i < BLOCK_WORDS; i++) {
            if (line.words[i] != store[line.block * BLOCK_WORDS + i]) {
                unlike++;
            }
        }
        return unlike;
    }

    private void readAt(int level, int block, int[] answer) {
        if (level >= height) {
            loadCount++;
            System.arraycopy(store, block * BLOCK_WORDS, answer, 0, BLOCK_WORDS);
            return;
        }
        Tier tier = ladder[level];
        Line line = tier.find(block);
        if (line == null) {
            tier.counts[MISSES]++;
            line = fetch(level, block, true);
        } else {
            tier.counts[HITS]++;
            tier.noteUse(line);
        }
        System.arraycopy(line.words, 0, answer, 0, BLOCK_WORDS);
    }

    private Line fetch(int level, int block, boolean readsBelow) {
        Line line = makeRoom(level, block);
        if (readsBelow) {
            // Nothing below ever places a line here, so the room stays free meanwhile.
            readAt(level + 1, block, line.words);
        }
        ladder[level].place(line, block);
        return line;
    }

    private Line makeRoom(int level, int block) {
        Tier tier = ladder[level];
        int set = tier.setOf(block);
        Line free = tier.freeIn(set);
        if (free != null) {
            return free;
        }
        Line chosen = tier.choose(set);
        tier.counts[EVICTIONS]++;
        leave(level, chosen);
        return chosen;
    }

    private void leave(int level, Line line) {
        if (ladder[level].closed) {
            gatherFromAbove(level, line);
        }
        writeDirty(level, line);
        line.go();
    }

    private void gatherFromAbove(int level, Line line) {
        // Upwards, so that of several dirty words the uppermost one stays.
        for (int above = level - 1; above >= 0; above--) {
            Line upper = ladder[above].find(line.block);
            if (upper != null) {
                copyWords(upper.dirtyBits, upper.words, line.words, 0);
                line.dirtyBits |= upper.dirtyBits;
                upper.go();
            }
        }
    }

    /** Writes a line's dirty words at what is below: how many. */
    private int writeDirty(int level, Line line) {
        int bits = line.dirtyBits;
        if (bits != 0) {
            // Clean before the write: a closed tier below that makes this line go gathers no
            // word that is already on its way down.
            line.dirtyBits = 0;
            writeBelow(level, line.block, bits, line.words);
        }
        return Integer.bitCount(bits);
    }

    private void writeBelow(int level, int block, int bits, int[] words) {
        ladder[level].counts[WORDS_BELOW] += Integer.bitCount(bits);
        writeAt(level + 1, block, bits, words);
    }

    private void writeAt(int level, int block, int bits, int[] words) {
        if (level >= height) {
            storeCount++;
            copyWords(bits, words, store, block * BLOCK_WORDS);
        } else if (ladder[level].writing == AROUND) {
            writeAround(level, block, bits, words);
        } else {
            writeInLine(level, block, bits, words);
        }
    }

    private void writeAround(int level, int block, int bits, int[] words) {
        ladder[level].counts[WRITE_MISSES]++;
        Line line = ladder[level].find(block);
        if (line != null) {
            leave(level, line);
        }
        writeBelow(level, block, bits, words);
    }

    private void writeInLine(int level, int block, int bits, int[] words) {
        Tier tier = ladder[level];
        Line line = tier.find(block);
        if (line == null) {
            tier.counts[WRITE_MISSES]++;
            line = fetch(level, block, bits != ALL_WORDS || closedBelow(level));
        } else {
            tier.counts[WRITE_HITS]++;
            tier.noteUse(line);
        }
        copyWords(bits, words, line.words, 0);
        if (tier.writing == BACK) {
            line.dirtyBits |= bits;
        } else {
            line.dirtyBits &= ~bits;
            writeBelow(level, block, bits, words);
        }
    }

    private boolean closedBelow(int level) {
        for (int below = level + 1; below < height; below++) {
            if (ladder[below].closed) {
                return true;
            }
        }
        return false;
    }

    private boolean standsWrong(int level, Line line) {
        // A line in another set, or a second one of its block, is not the one that is found.
        return ladder[level].find(line.block) != line || isMissedBelow(level, line.block);
    }

    private boolean isMissedBelow(int level, int block) {
        for (int below = level + 1; below < height; below++) {
            if (ladder[below].closed && ladder[below].wayOf(block) == NONE) {
                return true;
            }
        }
        return false;
    }
}
