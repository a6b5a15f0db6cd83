import java.util.List;
import java.util.Random;
import java.util.function.Consumer;

/**
 * Long runs of calls with ladders of every kind, each answer held against PlainLadder's, and the
 * newest words against a plain array wherever the document keeps them.
 */
public final class LongRunsTest {
    private static final Check check = new Check("LongRunsTest");
    private static final int CALLS = 150;
    // Seldom enough that no object is called more often than 512 times.
    private static final int STEP = 6;

    private final String name;
    private final Random random;
    private final CacheLadder x = new CacheLadder();
    private final Scene scene;
    private final PlainLadder plain = new PlainLadder();
    private final int[] newest = new int[1024];
    private final List<Ladders.Shape> ladder;
    private final int tiers;
    private final int span;

    private LongRunsTest(int seed, List<Ladders.Shape> ladder) {
        name = "run " + seed + ", ";
        this.ladder = ladder;
        tiers = ladder.size();
        scene = new Scene(name);
        // The seed is fixed, so that each run is the same each time.
        random = new Random(seed);
        span = 16 << random.nextInt(7);
    }

    public static void main(String[] args) {
        Ladders.dueAllKinds(check);
        List<List<Ladders.Shape>> all = Ladders.all();
        for (int seed = 0; seed < all.size(); seed++) {
            new LongRunsTest(seed, all.get(seed)).play();
        }
        check.end();
    }

    private void play() {
        for (Ladders.Shape shape : ladder) {
            addTier(shape.sets(), shape.ways(), shape.choosing(), shape.writing(), shape.closed());
        }
        for (int call = 0; call < CALLS; call++) {
            callOne();
            callWrongly();
            if (call % STEP == 0) {
                compareTraffic(call);
            }
        }
        compareAll();
    }

    private void addTier(int sets, int ways, int choosing, int writing, boolean closed) {
        check.due(name + "tier", x.tier(sets, ways, choosing, writing, closed), plain.shelves.size());
        plain.tier(sets, ways, choosing, writing, closed);
        scene.tier(sets, ways, choosing, writing, closed);
    }

    private void callOne() {
        int word = random.nextInt(span);
        int kind = random.nextInt(100);
        if (kind < 35) {
            check.due(name + "read(" + word + ")", x.read(word), plain.read(word));
            scene.access(y -> y.read(word));
        } else if (kind < 70) {
            int value = random.nextInt(1000);
            x.write(word, value);
            plain.write(word, value);
            scene.access(y -> y.write(word, value));
            newest[word] = value;
        } else if (kind < 85) {
            fill(word);
        } else if (kind < 87) {
            run();
        } else if (kind < 88) {
            check.due(name + "crash()", x.crash(), plain.crash());
            scene.call(CacheLadder::crash);
            System.arraycopy(plain.ground.words, 0, newest, 0, 1024);
        } else if (kind < 94 && tiers > 0) {
            int tier = random.nextInt(tiers);
            check.due(name + "flush(" + tier + ")", x.flush(tier), plain.flush(tier));
            scene.call(y -> y.flush(tier));
        } else if (kind < 96 && tiers > 0) {
            int tier = random.nextInt(tiers);
            check.due(name + "empty(" + tier + ")", x.empty(tier), plain.empty(tier));
            scene.call(y -> y.empty(tier));
        } else {
            check.due(name + "peek(" + word + ")", x.peek(word), plain.peek(word));
        }
    }

    /** A call that throws changes nothing: what is compared later tells. */
    private void callWrongly() {
        int far = 1024 + random.nextInt(8);
        switch (random.nextInt(12)) {
            case 0 -> wrongly(Check.BOUNDS, "read(" + far + ")", y -> y.read(far));
            case 1 -> wrongly(Check.BOUNDS, "write(" + far + ")", y -> y.write(far, 1));
            case 2 -> wrongly(Check.BOUNDS, "fill to " + far, y -> y.fill(0, far + 1, 1, 1));
            case 3 -> wrongly(Check.ARGUMENT, "fill of none", y -> y.fill(0, 0, 1, 1));
            case 4 -> wrongly(Check.ARGUMENT, "run of 201", y -> y.run(1, 201, span));
            case 5 -> wrongly(Check.BOUNDS, "flush(" + tiers + ")", y -> y.flush(tiers));
            case 6 -> wrongly(Check.BOUNDS, "empty(" + tiers + ")", y -> y.empty(tiers));
            case 7 -> wrongly(Check.ARGUMENT, "tier of 3 sets", y -> y.tier(3, 1, 0, 0, false));
            default -> check.due(name + "tiers()", x.tiers(), tiers);
        }
    }

    private void wrongly(String exception, String text, Consumer<CacheLadder> call) {
        check.due(name + text, Check.thrownBy(() -> call.accept(x)), exception);
        scene.call(y -> Check.thrownBy(() -> call.accept(y)));
    }

    private void fill(int word) {
        int n = 1 + random.nextInt(Math.min(20, span - word));
        int value = random.nextInt(1000);
        int step = random.nextInt(5) - 2;
        x.fill(word, n, value, step);
        plain.fill(word, n, value, step);
        scene.access(y -> y.fill(word, n, value, step));
        for (int i = 0; i < n; i++) {
            newest[word + i] = value + i * step;
        }
    }

    private void run() {
        int seed = random.nextInt();
        int n = random.nextInt(60);
        int want = 0;
        int row = seed;
        for (int i = 0; i < n; i++) {
            row = 1103515245 * row + 12345;
            int word = (row >>> 8) % span;
            if (((row >>> 20) & 3) == 0) {
                plain.write(word, row);
                newest[word] = row;
            } else {
                want += plain.read(word);
            }
        }
        check.due(name + "run(" + seed + ", " + n + ", " + span + ")", x.run(seed, n, span), want);
        scene.access(y -> y.run(seed, n, span));
    }

    private void compareTraffic(int call) {
        check.due(name + "astray() behind call " + call, x.astray(), 0);
        check.due(name + "traffic behind call " + call, Check.traffic(x), plain.ground.loads + " " + plain.ground.stores);
        for (PlainLadder.Shelf shelf : plain.shelves) {
            int set = random.nextInt(shelf.sets);
            int want = shelf.isFull(set) ? shelf.cards[set][shelf.chosenWay(set, false)].block : -1;
            check.due(name + "next behind call " + call, x.next(shelf.number, set), want);
        }
    }

    private void compareAll() {
        boolean keepsNewest = Ladders.keepsNewest(ladder);
        for (int word = 0; word < 1024; word++) {
            check.due(name + "stored(" + word + ")", scene.one().stored(word), plain.ground.words[word]);
            check.due(name + "peek(" + word + ")", scene.one().peek(word), keepsNewest ? newest[word] : plain.peek(word));
        }
        for (PlainLadder.Shelf shelf : plain.shelves) {
            compareShelf(shelf);
        }
    }

    private void compareShelf(PlainLadder.Shelf shelf) {
        int tier = shelf.number;
        for (int what = 0; what < 6; what++) {
            check.due(name + "count(" + tier + ", " + what + ")", scene.one().count(tier, what), shelf.counts[what]);
        }
        for (int set = 0; set < shelf.sets; set++) {
            for (int way = 0; way < shelf.ways; way++) {
                PlainLadder.Card card = shelf.cards[set][way];
                check.due(name + "line(" + tier + ", " + set + ", " + way + ")",
                        scene.one().line(tier, set, way), card == null ? -1 : card.block);
            }
        }
        for (int block = 0; block < 256; block++) {
            PlainLadder.Card card = shelf.card(block);
            check.due(name + "way(" + tier + ", " + block + ")", scene.one().way(tier, block), shelf.wayOf(block));
            check.due(name + "dirty(" + tier + ", " + block + ")", scene.one().dirty(tier, block), card == null ? -1 : card.bits());
        }
    }
}
