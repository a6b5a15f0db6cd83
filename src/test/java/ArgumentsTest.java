import java.util.function.Consumer;

/**
 * Each call of the face with every combination of ints at the edges, in ladders of all kinds: it
 * throws just what the document says there, and nothing else ever reaches its caller.
 */
public final class ArgumentsTest {
    private static final Check check = new Check("ArgumentsTest");
    private static final int[] EDGES = {
        Integer.MIN_VALUE, Integer.MIN_VALUE + 1, -1024, -256, -16, -4, -2, -1, 0, 1, 2, 3, 4, 5, 6, 7, 8,
        9, 15, 16, 17, 31, 32, 199, 200, 201, 254, 255, 256, 1020, 1022, 1023, 1024, 1025, 1 << 16,
        1 << 30, Integer.MAX_VALUE - 1, Integer.MAX_VALUE,
    };

    private final Scene scene;

    private ArgumentsTest(Scene scene) {
        this.scene = scene;
    }

    public static void main(String[] args) {
        for (Scene scene : Scenes.all()) {
            ArgumentsTest test = new ArgumentsTest(scene);
            for (int a : EDGES) {
                test.ofOne(a);
                for (int b : EDGES) {
                    test.ofTwo(a, b);
                    test.shapes(a, b);
                }
            }
            test.places();
        }
        check.end();
    }

    private void due(String exception, String text, Consumer<CacheLadder> call) {
        CacheLadder x = scene.one();
        check.due(scene.name + ": " + text, Check.thrownBy(() -> call.accept(x)), exception);
    }

    private static boolean isWord(int word) {
        return 0 <= word && word <= 1023;
    }

    private static boolean isBlock(int block) {
        return 0 <= block && block <= 255;
    }

    private boolean isTier(int tier) {
        return 0 <= tier && tier <= scene.tiers() - 1;
    }

    private boolean isSet(int tier, int set) {
        return isTier(tier) && 0 <= set && set <= scene.sets(tier) - 1;
    }

    private boolean isWay(int tier, int way) {
        return isTier(tier) && 0 <= way && way <= scene.ways(tier) - 1;
    }

    private void ofOne(int a) {
        String word = isWord(a) ? Check.NOTHING : Check.BOUNDS;
        due(word, "read(" + a + ")", x -> x.read(a));
        due(word, "write(" + a + ")", x -> x.write(a, a));
        due(word, "peek(" + a + ")", x -> x.peek(a));
        due(word, "stored(" + a + ")", x -> x.stored(a));
        String tier = isTier(a) ? Check.NOTHING : Check.BOUNDS;
        due(tier, "flush(" + a + ")", x -> x.flush(a));
        due(tier, "empty(" + a + ")", x -> x.empty(a));
        due(Check.NOTHING, "crash()", CacheLadder::crash);
    }

    private void ofTwo(int a, int b) {
        String pair = "(" + a + ", " + b + ")";
        String count = 0 <= b && b <= 5 ? Check.NOTHING : Check.ARGUMENT;
        due(isTier(a) ? count : Check.BOUNDS, "count" + pair, x -> x.count(a, b));
        due(isSet(a, b) ? Check.NOTHING : Check.BOUNDS, "next" + pair, x -> x.next(a, b));
        String block = isTier(a) && isBlock(b) ? Check.NOTHING : Check.BOUNDS;
        due(block, "way" + pair, x -> x.way(a, b));
        due(block, "dirty" + pair, x -> x.dirty(a, b));
        // In longs, so that the last word cannot go round.
        boolean fills = isWord(a) && (long) a + b - 1 <= 1023;
        due(b < 1 ? Check.ARGUMENT : fills ? Check.NOTHING : Check.BOUNDS, "fill" + pair, x -> x.fill(a, b, b, a));
        boolean runs = 0 <= a && a <= 200 && 1 <= b && b <= 1024;
        due(runs ? Check.NOTHING : Check.ARGUMENT, "run" + pair, x -> x.run(a ^ b, a, b));
    }

    private void places() {
        for (int tier = -1; tier <= 4; tier++) {
            for (int set : EDGES) {
                for (int way : EDGES) {
                    int of = tier;
                    due(isSet(tier, set) && isWay(tier, way) ? Check.NOTHING : Check.BOUNDS,
                            "line(" + tier + ", " + set + ", " + way + ")", x -> x.line(of, set, way));
                }
            }
        }
    }

    private void shapes(int a, int b) {
        boolean sets = a == 1 || a == 2 || a == 4 || a == 8 || a == 16;
        dueTier(sets && 1 <= b && b <= 4, a, b, 3, 0);
        dueTier(0 <= a && a <= 3 && 0 <= b && b <= 2, 16, 4, a, b);
    }

    private void dueTier(boolean right, int sets, int ways, int choosing, int writing) {
        String allowed = scene.tiers() == 4 ? Check.UNSUPPORTED : scene.isAccessed() ? Check.STATE : Check.NOTHING;
        String text = ": tier(" + sets + ", " + ways + ", " + choosing + ", " + writing + ")";
        // Of an object of its own: the others are read and written, or would have a tier more.
        CacheLadder x = scene.made();
        String thrown = Check.thrownBy(() -> x.tier(sets, ways, choosing, writing, false));
        check.due(scene.name + text, thrown, right ? allowed : Check.ARGUMENT);
    }
}
