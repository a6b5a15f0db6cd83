import java.util.function.Consumer;

/**
 * What only asks, changes nothing: promises 7, 8 and 12 to 19 at the first and last values that
 * are allowed, a run of no access, and what finds nothing to do: flush of clean lines, and flush,
 * empty and crash of empty tiers.
 */
public final class QuietTest {
    private static final Check check = new Check("QuietTest");

    private final Scene scene;

    private QuietTest(Scene scene) {
        this.scene = scene;
    }

    public static void main(String[] args) {
        for (Scene scene : Scenes.all()) {
            QuietTest test = new QuietTest(scene);
            test.ofWords();
            test.ofAll();
            for (int tier = 0; tier < scene.tiers(); tier++) {
                test.ofTier(tier);
                test.ofPlaces(tier);
            }
        }
        noLines();
        cleanLines();
        check.end();
    }

    private void quiet(String text, Consumer<CacheLadder> call) {
        CacheLadder x = scene.made();
        check.due(scene.name + ": " + text, Check.thrownBy(() -> call.accept(x)), Check.NOTHING);
        scene.dueUnchanged(check, text, call);
    }

    /** "The newest value of a word, without any use or count", and "What the store has". */
    private void ofWords() {
        for (int word : new int[] {0, 3, 4, 1020, 1023}) {
            quiet("peek(" + word + ")", x -> x.peek(word));
            quiet("stored(" + word + ")", x -> x.stored(word));
        }
        for (int block = 0; block < 256; block++) {
            int word = 4 * block + block % 4;
            if (scene.tiers() > 0 && scene.one().way(0, block) >= 0) {
                quiet("peek(" + word + ") of a line", x -> x.peek(word));
            }
        }
    }

    private void ofAll() {
        quiet("traffic(false)", x -> x.traffic(false));
        quiet("traffic(true)", x -> x.traffic(true));
        quiet("tiers()", CacheLadder::tiers);
        quiet("astray()", CacheLadder::astray);
        quiet("run(7, 0, 1)", x -> check.due("run of no access", x.run(7, 0, 1), 0));
        quiet("run(7, 0, 1024)", x -> check.due("run of no access", x.run(7, 0, 1024), 0));
    }

    private void ofTier(int tier) {
        for (int i = 0; i < 6; i++) {
            int what = i;
            quiet("count(" + tier + ", " + what + ")", x -> x.count(tier, what));
        }
        for (int block : new int[] {0, 1, 255}) {
            quiet("way(" + tier + ", " + block + ")", x -> x.way(tier, block));
            quiet("dirty(" + tier + ", " + block + ")", x -> x.dirty(tier, block));
        }
    }

    private void ofPlaces(int tier) {
        int lastSet = scene.sets(tier) - 1;
        int lastWay = scene.ways(tier) - 1;
        quiet("line(" + tier + ", 0, 0)", x -> x.line(tier, 0, 0));
        quiet("line(" + tier + ", last, last)", x -> x.line(tier, lastSet, lastWay));
        for (int i = 0; i <= lastSet; i++) {
            int set = i;
            quiet("next(" + tier + ", " + set + ")", x -> x.next(tier, set));
        }
    }

    private static void noLines() {
        Scene one = new Scene("one empty tier").tier(2, 2, 2, 1, true);
        Scene four = new Scene("four empty tiers");
        for (int tier = 0; tier < 4; tier++) {
            four.tier(1, 1, tier, tier % 3, tier % 2 == 0);
        }
        for (Scene scene : new Scene[] {one, four}) {
            QuietTest test = new QuietTest(scene);
            test.quiet("crash()", x -> check.due("crash of nothing", x.crash(), 0));
            for (int i = 0; i < scene.tiers(); i++) {
                int tier = i;
                test.quiet("flush(" + tier + ")", x -> check.due("flush of nothing", x.flush(tier), 0));
                test.quiet("empty(" + tier + ")", x -> check.due("empty of nothing", x.empty(tier), 0));
            }
        }
    }

    /** "lines stay": by whatever they are chosen, a flush that finds no dirty word is no use. */
    private static void cleanLines() {
        for (int choosing = 0; choosing < 4; choosing++) {
            Scene scene = new Scene("clean lines by " + choosing);
            scene.tier(1, 4, choosing, 1, false).tier(1, 4, choosing, 0, true);
            // Read so that the last line is the first to go, or has the fewest uses, or no mark.
            for (int block : new int[] {0, 1, 2, 3, 4, 2, 1, 2}) {
                scene.access(x -> x.read(4 * block));
            }
            QuietTest test = new QuietTest(scene);
            test.quiet("flush(0)", x -> check.due("flush of clean lines", x.flush(0), 0));
            test.quiet("flush(1)", x -> check.due("flush of clean lines", x.flush(1), 0));
        }
    }
}
