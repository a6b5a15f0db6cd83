import java.util.List;
import java.util.Random;

/**
 * What the document's Terms ask of every ladder in every state, without a second ladder to compare
 * with: where lines stand, that words which are dirty nowhere are the store's, and that what one
 * tier counts is what reaches the next.
 */
public final class BalanceTest {
    private static final Check check = new Check("BalanceTest");
    private static final int CALLS = 40;
    private static final int BACK = 1;
    private static final int AROUND = 2;

    private final List<Ladders.Shape> ladder;
    private final String name;
    private final Random random;
    private final Scene scene;
    private final int tiers;
    private final int span;
    private final int[] newest = new int[1024];
    private final int[] emptied = new int[4];
    private int reads;
    private int writes;
    private int words;

    private BalanceTest(int number, List<Ladders.Shape> ladder) {
        this.ladder = ladder;
        name = "ladder " + number + ", ";
        // The seed is fixed, so that each run is the same each time.
        random = new Random(number);
        scene = new Scene(name);
        tiers = ladder.size();
        span = 32 << random.nextInt(4);
    }

    public static void main(String[] args) {
        List<List<Ladders.Shape>> all = Ladders.all();
        for (int i = 0; i < all.size(); i++) {
            new BalanceTest(i, all.get(i)).play();
        }
        check.end();
    }

    private void play() {
        for (Ladders.Shape shape : ladder) {
            scene.tier(shape.sets(), shape.ways(), shape.choosing(), shape.writing(), shape.closed());
        }
        for (int call = 0; call < CALLS; call++) {
            callOne();
        }
        dueAccesses();
        for (int tier = 0; tier < tiers; tier++) {
            dueReadsBelow(tier);
            dueWritesBelow(tier);
            duePlaces(tier);
        }
        dueWords();
        dueNothingLostWhenEmptied();
    }

    private void callOne() {
        int word = random.nextInt(span);
        int kind = random.nextInt(20);
        if (kind < 8) {
            scene.access(x -> x.read(word));
            reads++;
        } else if (kind < 13) {
            fill(word, 1);
        } else if (kind < 17) {
            fill(word, 1 + random.nextInt(Math.min(12, span - word)));
        } else if (kind < 19 && tiers > 0) {
            int tier = random.nextInt(tiers);
            scene.call(x -> x.flush(tier));
        } else if (tiers > 0) {
            int tier = random.nextInt(tiers);
            emptied[tier] += scene.made().empty(tier);
            scene.call(x -> x.empty(tier));
        }
    }

    private void fill(int word, int n) {
        int value = random.nextInt(1000);
        scene.access(x -> x.fill(word, n, value, 3));
        for (int i = 0; i < n; i++) {
            newest[word + i] = value + 3 * i;
        }
        writes += (word + n - 1) / 4 - word / 4 + 1;
        words += n;
    }

    private int count(int tier, int what) {
        return scene.one().count(tier, what);
    }

    /** The READs that have reached a tier, or the store below the last one. */
    private int readsAt(int level) {
        return level < tiers ? count(level, 0) + count(level, 1) : scene.one().traffic(false);
    }

    private int writesAt(int level) {
        return level < tiers ? count(level, 2) + count(level, 3) : scene.one().traffic(true);
    }

    private int wordsFromAbove(int tier) {
        return tier == 0 ? words : count(tier - 1, 5);
    }

    private boolean isClosedBelow(int tier) {
        return ladder.subList(tier + 1, tiers).stream().anyMatch(Ladders.Shape::closed);
    }

    private void dueAtLeast(String what, int got, int least) {
        check.due(name + what + " " + got + " is at least " + least, got >= least ? 1 : 0, 1);
    }

    private void dueAccesses() {
        check.due(name + "reads", readsAt(0), reads);
        check.due(name + "writes", writesAt(0), writes);
    }

    /** A READ goes on below for each miss, and for each line that is fetched by a write. */
    private void dueReadsBelow(int tier) {
        int below = readsAt(tier + 1);
        int misses = count(tier, 1);
        int all = misses + count(tier, 3);
        if (ladder.get(tier).writing() == AROUND) {
            check.due(name + "write hits of AROUND tier " + tier, count(tier, 2), 0);
            check.due(name + "reads below AROUND tier " + tier, below, misses);
        } else if (isClosedBelow(tier)) {
            check.due(name + "reads below tier " + tier + " over a closed one", below, all);
        } else {
            dueAtLeast("reads below tier " + tier, below, misses);
            dueAtLeast("misses of tier " + tier, all, below);
        }
    }

    /** THROUGH and AROUND send on what comes; BACK at most that; and closed tiers what is above. */
    private void dueWritesBelow(int tier) {
        Ladders.Shape shape = ladder.get(tier);
        int writesBelow = writesAt(tier + 1);
        int wordsBelow = count(tier, 5);
        if (shape.writing() != BACK && !shape.closed()) {
            check.due(name + "writes below tier " + tier, writesBelow, writesAt(tier));
            check.due(name + "words below tier " + tier, wordsBelow, wordsFromAbove(tier));
        } else if (shape.writing() != BACK) {
            dueAtLeast("writes below closed tier " + tier, writesBelow, writesAt(tier));
            dueAtLeast("words below closed tier " + tier, wordsBelow, wordsFromAbove(tier));
        } else if (!shape.closed()) {
            dueAtLeast("words to BACK tier " + tier, wordsFromAbove(tier), wordsBelow);
        }
        dueAtLeast("words of the writes below tier " + tier, wordsBelow, writesBelow);
        dueAtLeast("four words each of the writes below tier " + tier, 4 * writesBelow, wordsBelow);
    }

    /** Lines stand in their set, once, above closed tiers that have them; those placed are there. */
    private void duePlaces(int tier) {
        Ladders.Shape shape = ladder.get(tier);
        int lines = 0;
        for (int set = 0; set < shape.sets(); set++) {
            for (int way = 0; way < shape.ways(); way++) {
                int block = scene.one().line(tier, set, way);
                if (block >= 0) {
                    lines++;
                    dueLine(tier, set, way, block);
                }
            }
        }
        int placed = count(tier, 1) + (shape.writing() == AROUND ? 0 : count(tier, 3));
        int staying = placed - count(tier, 4) - emptied[tier];
        if (shape.writing() == AROUND || isClosedBelow(tier)) {
            dueAtLeast("lines that stayed in tier " + tier, staying, lines);
        } else {
            check.due(name + "lines of tier " + tier, lines, staying);
        }
        check.due(name + "astray()", scene.one().astray(), 0);
    }

    private void dueLine(int tier, int set, int way, int block) {
        String line = name + "line of block " + block + " in tier " + tier;
        check.due(line + ", set", block % ladder.get(tier).sets(), set);
        // The one way that is answered: of a block that stands twice, one line would differ.
        check.due(line + ", way", scene.one().way(tier, block), way);
        if (ladder.get(tier).writing() != BACK) {
            check.due(line + ", dirty words", scene.one().dirty(tier, block), 0);
        }
        for (int below = tier + 1; below < tiers; below++) {
            if (ladder.get(below).closed()) {
                boolean there = scene.one().way(below, block) >= 0;
                check.due(line + " is in closed tier " + below, there ? 1 : 0, 1);
            }
        }
    }

    /** "which of their words are newer than what is below": what is dirty nowhere is not newer. */
    private void dueWords() {
        boolean keepsNewest = Ladders.keepsNewest(ladder);
        int unlike = 0;
        for (int word = 0; word < span; word++) {
            int newer = scene.one().peek(word);
            int stored = scene.one().stored(word);
            if (!isDirty(word)) {
                check.due(name + "clean peek(" + word + ")", newer, stored);
            }
            if (keepsNewest) {
                check.due(name + "peek(" + word + ")", newer, newest[word]);
                check.due(name + "read(" + word + ")", scene.made().read(word), newest[word]);
            }
            unlike += newer != stored ? 1 : 0;
        }
        check.due(name + "crash()", scene.made().crash(), unlike);
    }

    private boolean isDirty(int word) {
        for (int tier = 0; tier < tiers; tier++) {
            int bits = scene.one().dirty(tier, word / 4);
            if (bits > 0 && (bits >> word % 4 & 1) == 1) {
                return true;
            }
        }
        return false;
    }

    private void dueNothingLostWhenEmptied() {
        for (int i = 0; i < tiers; i++) {
            int tier = i;
            scene.call(x -> x.empty(tier));
        }
        check.due(name + "crash() of empty tiers", scene.made().crash(), 0);
        for (int word = 0; word < span && Ladders.keepsNewest(ladder); word++) {
            check.due(name + "stored(" + word + ") at last", scene.one().stored(word), newest[word]);
        }
    }
}
