import java.util.ArrayList;
import java.util.Arrays;
import java.util.List;
import java.util.function.Consumer;
import java.util.function.ToIntFunction;

/**
 * A ladder in a state that can be made anew: nothing is promised about an object after its 512th
 * call, so what takes more questions than that is asked of several objects in the same state.
 */
final class Scene {
    private static final int MOST_CALLS = 512;

    private record Question(String text, ToIntFunction<CacheLadder> asked) {
    }

    final String name;
    private final List<Consumer<CacheLadder>> calls = new ArrayList<>();
    private final List<int[]> shapes = new ArrayList<>();
    private boolean accessed;
    private CacheLadder current;
    private int callsLeft;
    // What has been worked out already, and is again after the next call.
    private List<Question> questions;
    private int[] told;
    private Scene[] stages;

    Scene(String name) {
        this.name = name;
    }

    /** The same state, to be led on from there. */
    private Scene copy() {
        Scene copy = new Scene(name);
        copy.calls.addAll(calls);
        copy.shapes.addAll(shapes);
        copy.accessed = accessed;
        copy.questions = questions();
        return copy;
    }

    Scene tier(int sets, int ways, int choosing, int writing, boolean closed) {
        shapes.add(new int[] {sets, ways});
        questions = null;
        return call(x -> x.tier(sets, ways, choosing, writing, closed));
    }

    /** A call that reads or writes. */
    Scene access(Consumer<CacheLadder> call) {
        accessed = true;
        return call(call);
    }

    Scene call(Consumer<CacheLadder> call) {
        calls.add(call);
        callsLeft = 0;
        told = null;
        stages = null;
        return this;
    }

    int tiers() {
        return shapes.size();
    }

    int sets(int tier) {
        return shapes.get(tier)[0];
    }

    int ways(int tier) {
        return shapes.get(tier)[1];
    }

    boolean isAccessed() {
        return accessed;
    }

    CacheLadder made() {
        CacheLadder x = new CacheLadder();
        for (Consumer<CacheLadder> call : calls) {
            call.accept(x);
        }
        return x;
    }

    /** An object in this state that may be asked once more. */
    CacheLadder one() {
        if (callsLeft == 0) {
            current = made();
            callsLeft = MOST_CALLS - calls.size();
        }
        callsLeft--;
        return current;
    }

    /** The call changes nothing: not what can be asked now, and not what comes of later calls. */
    void dueUnchanged(Check check, String text, Consumer<CacheLadder> call) {
        if (stages == null) {
            stages = stages();
        }
        Scene[] after = copy().call(x -> Check.thrownBy(() -> call.accept(x))).stages();
        for (int i = 0; i < stages.length; i++) {
            int differs = Arrays.mismatch(after[i].told(), stages[i].told());
            String first = differs < 0 ? "nothing" : stages[i].questions().get(differs).text;
            check.due(name + ": " + text + " changes at stage " + i, first, "nothing");
        }
    }

    /** This state, and those that the same further calls lead to. */
    private Scene[] stages() {
        return new Scene[] {this, ledOn(), ledFarOn()};
    }

    /** Later calls show what cannot be asked: hands, marks, uses, ages, and what tier() refuses. */
    private Scene ledOn() {
        Scene on = copy();
        if (accessed || tiers() == 4) {
            on.call(x -> Check.thrownBy(() -> x.tier(1, 1, 0, 1, false)));
        } else {
            on.tier(2, 2, 2, 1, true);
        }
        return on.access(x -> x.read(1020)).access(x -> x.write(901, 7)).access(x -> x.read(4));
    }

    private Scene ledFarOn() {
        Scene on = ledOn();
        on.access(x -> x.fill(37, 22, 900, 3)).access(x -> x.run(8, 90, 300)).access(x -> x.run(-4, 60, 64));
        for (int i = 0; i < on.tiers(); i++) {
            int tier = i;
            on.call(x -> x.flush(tier));
        }
        return on.access(x -> x.run(21, 40, 1024));
    }

    /** The answers to all that can be asked about the state. */
    private int[] told() {
        if (told == null) {
            told = new int[questions().size()];
            for (int i = 0; i < told.length; i++) {
                told[i] = questions().get(i).asked.applyAsInt(one());
            }
        }
        return told;
    }

    private List<Question> questions() {
        if (questions == null) {
            questions = new ArrayList<>();
            askOfAll();
            for (int tier = 0; tier < tiers(); tier++) {
                askOfTier(tier);
                for (int set = 0; set < sets(tier); set++) {
                    askOfSet(tier, set);
                }
            }
        }
        return questions;
    }

    private void ask(String text, ToIntFunction<CacheLadder> asked) {
        questions.add(new Question(text, asked));
    }

    private void askOfAll() {
        ask("tiers()", CacheLadder::tiers);
        ask("astray()", CacheLadder::astray);
        ask("traffic(false)", x -> x.traffic(false));
        ask("traffic(true)", x -> x.traffic(true));
        for (int i = 0; i < 1024; i++) {
            int word = i;
            ask("stored(" + word + ")", x -> x.stored(word));
            ask("peek(" + word + ")", x -> x.peek(word));
        }
    }

    private void askOfTier(int tier) {
        for (int i = 0; i < 6; i++) {
            int what = i;
            ask("count(" + tier + ", " + what + ")", x -> x.count(tier, what));
        }
        for (int i = 0; i < 256; i++) {
            int block = i;
            ask("way(" + tier + ", " + block + ")", x -> x.way(tier, block));
            ask("dirty(" + tier + ", " + block + ")", x -> x.dirty(tier, block));
        }
    }

    private void askOfSet(int tier, int set) {
        ask("next(" + tier + ", " + set + ")", x -> x.next(tier, set));
        for (int i = 0; i < ways(tier); i++) {
            int way = i;
            ask("line(" + tier + ", " + set + ", " + way + ")", x -> x.line(tier, set, way));
        }
    }
}
