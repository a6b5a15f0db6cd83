import java.util.function.Consumer;

/**
 * What promises 2 to 17 refuse, in ladders without tiers, with one and with four: the first values
 * that are not allowed on both sides, the smallest and the largest int, and two wrong arguments at
 * once; and that a refused call changes nothing.
 */
public final class RefusedTest {
    private static final Check check = new Check("RefusedTest");
    private static final int LEAST = Integer.MIN_VALUE;
    private static final int MOST = Integer.MAX_VALUE;
    private static final int[] NO_WORDS = {LEAST, -1, 1024, MOST};
    private static final int[] NO_BLOCKS = {LEAST, -1, 256, MOST};
    private static final int[] NO_COUNTS = {LEAST, -1, 6, MOST};

    private final Scene scene;
    private final int[] noTiers;

    private RefusedTest(Scene scene) {
        this.scene = scene;
        noTiers = new int[] {LEAST, -1, scene.tiers(), 4, MOST};
    }

    public static void main(String[] args) {
        for (Scene scene : Scenes.all()) {
            RefusedTest test = new RefusedTest(scene);
            test.tierOfWrongShape();
            test.tierTooMany();
            test.words();
            test.fillOfTooFew();
            test.fillOfNoSuchWord();
            test.runOfWrongNumber();
            test.runOfWrongSpan();
            test.noSuchTier();
            test.noSuchCount();
            test.noSuchSetOrWay();
            test.noSuchBlock();
        }
        check.end();
    }

    private void refused(String exception, String text, Consumer<CacheLadder> call) {
        CacheLadder x = scene.made();
        check.due(scene.name + ": " + text, Check.thrownBy(() -> call.accept(x)), exception);
        scene.dueUnchanged(check, text, call);
    }

    private void refusedShape(int sets, int ways, int choosing, int writing) {
        String text = "tier(" + sets + ", " + ways + ", " + choosing + ", " + writing + ")";
        refused(Check.ARGUMENT, text, x -> x.tier(sets, ways, choosing, writing, true));
    }

    /** "IllegalArgument: no such sets, ways, choosing (0 .. 3) or writing (0 .. 2)", in any state. */
    private void tierOfWrongShape() {
        for (int sets : new int[] {LEAST, -16, -1, 0, 3, 5, 7, 9, 12, 15, 17, 32, 1 << 30, MOST}) {
            refusedShape(sets, 4, 3, 2);
        }
        for (int ways : new int[] {LEAST, -1, 0, 5, MOST}) {
            refusedShape(16, ways, 0, 0);
        }
        for (int choosing : new int[] {LEAST, -1, 4, MOST}) {
            refusedShape(1, 1, choosing, 2);
        }
        for (int writing : new int[] {LEAST, -1, 3, MOST}) {
            refusedShape(1, 1, 3, writing);
        }
        refusedShape(0, 0, -1, -1);
        refusedShape(MOST, MOST, 0, 0);
        refusedShape(1, 1, LEAST, MOST);
    }

    /** "UnsupportedOperation: there are 4. IllegalState: a word was read or written before." */
    private void tierTooMany() {
        if (scene.tiers() == 4) {
            refused(Check.UNSUPPORTED, "tier(1, 1, 0, 0)", x -> x.tier(1, 1, 0, 0, false));
            refused(Check.UNSUPPORTED, "tier(16, 4, 3, 2)", x -> x.tier(16, 4, 3, 2, true));
        } else if (scene.isAccessed()) {
            refused(Check.STATE, "tier(1, 1, 0, 0)", x -> x.tier(1, 1, 0, 0, false));
            refused(Check.STATE, "tier(16, 4, 3, 2)", x -> x.tier(16, 4, 3, 2, true));
        } else {
            check.due(scene.name + ": one tier more", scene.made().tier(16, 4, 3, 2, true), scene.tiers());
        }
    }

    /** "IndexOutOfBounds: there is no such word": read, write, peek and stored. */
    private void words() {
        for (int word : NO_WORDS) {
            refused(Check.BOUNDS, "read(" + word + ")", x -> x.read(word));
            refused(Check.BOUNDS, "write(" + word + ")", x -> x.write(word, 1));
            refused(Check.BOUNDS, "peek(" + word + ")", x -> x.peek(word));
            refused(Check.BOUNDS, "stored(" + word + ")", x -> x.stored(word));
        }
    }

    private void refusedFill(String exception, int word, int n) {
        refused(exception, "fill(" + word + ", " + n + ")", x -> x.fill(word, n, 5, 1));
    }

    /** "IllegalArgument: n is below 1", which comes before a wrong word. */
    private void fillOfTooFew() {
        for (int n : new int[] {LEAST, -1, 0}) {
            refusedFill(Check.ARGUMENT, 0, n);
            refusedFill(Check.ARGUMENT, 1023, n);
            refusedFill(Check.ARGUMENT, -1, n);
            refusedFill(Check.ARGUMENT, 1024, n);
        }
        refusedFill(Check.ARGUMENT, LEAST, LEAST);
        refusedFill(Check.ARGUMENT, MOST, 0);
    }

    /** "IndexOutOfBounds: there is no such word, or the last one", also where word + n wraps. */
    private void fillOfNoSuchWord() {
        for (int word : NO_WORDS) {
            refusedFill(Check.BOUNDS, word, 1);
            refusedFill(Check.BOUNDS, word, MOST);
        }
        refusedFill(Check.BOUNDS, -1, 2);
        refusedFill(Check.BOUNDS, -1, 1025);
        for (int word : new int[] {0, 1, 512, 1020, 1023}) {
            refusedFill(Check.BOUNDS, word, 1025 - word);
            refusedFill(Check.BOUNDS, word, MOST);
        }
    }

    private void refusedRun(int seed, int n, int span) {
        refused(Check.ARGUMENT, "run(" + seed + ", " + n + ", " + span + ")", x -> x.run(seed, n, span));
    }

    /** "IllegalArgument: n is not 0 .. 200". */
    private void runOfWrongNumber() {
        for (int n : new int[] {LEAST, -1, 201, MOST}) {
            refusedRun(1, n, 1);
            refusedRun(LEAST, n, 1024);
            refusedRun(MOST, n, 0);
        }
    }

    /** "or span not 1 .. 1024", even if no access is asked for. */
    private void runOfWrongSpan() {
        for (int span : new int[] {LEAST, -1, 0, 1025, MOST}) {
            refusedRun(1, 0, span);
            refusedRun(LEAST, 1, span);
            refusedRun(MOST, 200, span);
        }
    }

    /** "IndexOutOfBounds: there is no such tier", which comes before a wrong count. */
    private void noSuchTier() {
        for (int tier : noTiers) {
            refused(Check.BOUNDS, "flush(" + tier + ")", x -> x.flush(tier));
            refused(Check.BOUNDS, "empty(" + tier + ")", x -> x.empty(tier));
            refused(Check.BOUNDS, "line(" + tier + ", 0, 0)", x -> x.line(tier, 0, 0));
            refused(Check.BOUNDS, "line(" + tier + ", -1, -1)", x -> x.line(tier, -1, -1));
            refused(Check.BOUNDS, "way(" + tier + ", 0)", x -> x.way(tier, 0));
            refused(Check.BOUNDS, "way(" + tier + ", 256)", x -> x.way(tier, 256));
            refused(Check.BOUNDS, "dirty(" + tier + ", 0)", x -> x.dirty(tier, 0));
            refused(Check.BOUNDS, "dirty(" + tier + ", 256)", x -> x.dirty(tier, 256));
            refused(Check.BOUNDS, "next(" + tier + ", 0)", x -> x.next(tier, 0));
            refused(Check.BOUNDS, "next(" + tier + ", -1)", x -> x.next(tier, -1));
            refused(Check.BOUNDS, "count(" + tier + ", 0)", x -> x.count(tier, 0));
            for (int what : NO_COUNTS) {
                refused(Check.BOUNDS, "count(" + tier + ", " + what + ")", x -> x.count(tier, what));
            }
        }
    }

    /** "IllegalArgument: no such count." */
    private void noSuchCount() {
        for (int i = 0; i < scene.tiers(); i++) {
            int tier = i;
            for (int what : NO_COUNTS) {
                refused(Check.ARGUMENT, "count(" + tier + ", " + what + ")", x -> x.count(tier, what));
            }
        }
    }

    /** "IndexOutOfBounds: there is no such tier, set, or way", by the tier's own sets and ways. */
    private void noSuchSetOrWay() {
        for (int i = 0; i < scene.tiers(); i++) {
            int tier = i;
            int sets = scene.sets(tier);
            int ways = scene.ways(tier);
            for (int set : new int[] {LEAST, -1, sets, 16, MOST}) {
                refused(Check.BOUNDS, "next(" + tier + ", " + set + ")", x -> x.next(tier, set));
                refused(Check.BOUNDS, "line(" + tier + ", " + set + ", 0)", x -> x.line(tier, set, 0));
                refused(Check.BOUNDS, "line(" + tier + ", " + set + ", -1)", x -> x.line(tier, set, -1));
            }
            for (int way : new int[] {LEAST, -1, ways, 4, MOST}) {
                refused(Check.BOUNDS, "line(" + tier + ", 0, " + way + ")", x -> x.line(tier, 0, way));
                refused(Check.BOUNDS, "line(" + tier + ", last set, " + way + ")", x -> x.line(tier, sets - 1, way));
            }
            // With set * ways + way a place of the tier, so that only the set and the way tell.
            refused(Check.BOUNDS, "line(" + tier + ", 1, -ways)", x -> x.line(tier, 1, -ways));
            refused(Check.BOUNDS, "line(" + tier + ", -1, ways)", x -> x.line(tier, -1, ways));
        }
    }

    /** "IndexOutOfBounds: there is no such tier, or block." */
    private void noSuchBlock() {
        for (int i = 0; i < scene.tiers(); i++) {
            int tier = i;
            for (int block : NO_BLOCKS) {
                refused(Check.BOUNDS, "way(" + tier + ", " + block + ")", x -> x.way(tier, block));
                refused(Check.BOUNDS, "dirty(" + tier + ", " + block + ")", x -> x.dirty(tier, block));
            }
        }
    }
}
