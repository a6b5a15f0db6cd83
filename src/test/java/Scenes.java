import java.util.List;

/** Ladders without tiers, with one and with four: new, in use, full, emptied and after a crash. */
final class Scenes {
    private static final int AGE = 0;
    private static final int USE = 1;
    private static final int CLOCK = 2;
    private static final int COUNT = 3;
    private static final int THROUGH = 0;
    private static final int BACK = 1;
    private static final int AROUND = 2;

    private Scenes() {
    }

    static List<Scene> all() {
        return List.of(
                new Scene("no tiers, new"),
                storeInUse(),
                new Scene("one tier of one line, new").tier(1, 1, AGE, BACK, true),
                oneLine(),
                clockWithRoom(),
                useWithRoom(),
                fullTier(),
                threeTiers("three tiers, new"),
                openOverClosed("four tiers, new"),
                inUse(openOverClosed("four tiers, in use")),
                inUse(closedOverClosed("four tiers, in use, the last one closed and AROUND")),
                inUse(openOverClosed("four tiers, after a crash")).call(CacheLadder::crash),
                emptied());
    }

    private static Scene storeInUse() {
        return new Scene("no tiers, in use").access(x -> x.write(0, Integer.MIN_VALUE))
                .access(x -> x.fill(1017, 7, Integer.MAX_VALUE, 1)).access(x -> x.run(3, 20, 1024));
    }

    private static Scene oneLine() {
        return new Scene("one tier of one line, dirty").tier(1, 1, AGE, BACK, false)
                .access(x -> x.read(0)).access(x -> x.write(1023, 9));
    }

    /** Set 0 is full with the hand at way 2, set 1 has one line, set 2 none, set 3 is full. */
    private static Scene clockWithRoom() {
        Scene scene = new Scene("one CLOCK tier with room").tier(4, 3, CLOCK, BACK, false);
        for (int block : new int[] {0, 4, 8, 12, 16, 1, 3, 7, 11, 15, 7}) {
            scene.access(x -> x.write(4 * block + block % 3, block));
        }
        return scene;
    }

    /** Set 1 is full, its eldest line in the middle, set 0 has two lines. */
    private static Scene useWithRoom() {
        Scene scene = new Scene("one USE tier with room").tier(2, 4, USE, THROUGH, false);
        for (int block : new int[] {1, 3, 5, 255, 0, 1, 5, 254}) {
            scene.access(x -> x.read(4 * block)).access(x -> x.write(4 * block + 1, block));
        }
        return scene;
    }

    private static Scene fullTier() {
        return new Scene("one full tier").tier(16, 4, COUNT, BACK, true)
                .access(x -> x.fill(0, 256, -5, 9)).access(x -> x.run(5, 50, 256));
    }

    private static Scene threeTiers(String name) {
        return new Scene(name).tier(8, 1, USE, AROUND, false).tier(2, 2, COUNT, THROUGH, true)
                .tier(1, 4, CLOCK, BACK, false);
    }

    private static Scene openOverClosed(String name) {
        return new Scene(name).tier(1, 2, CLOCK, BACK, false).tier(2, 3, USE, AROUND, false)
                .tier(4, 4, COUNT, BACK, true).tier(16, 4, CLOCK, THROUGH, true);
    }

    private static Scene closedOverClosed(String name) {
        return new Scene(name).tier(1, 4, COUNT, BACK, true).tier(1, 3, AGE, BACK, false)
                .tier(8, 3, USE, BACK, true).tier(16, 2, CLOCK, AROUND, true);
    }

    private static Scene inUse(Scene scene) {
        return scene.access(x -> x.fill(0, 90, 1, 1)).access(x -> x.run(17, 120, 400))
                .access(x -> x.run(18, 40, 40)).access(x -> x.flush(0)).access(x -> x.fill(10, 5, -1, -1));
    }

    private static Scene emptied() {
        Scene scene = inUse(closedOverClosed("four tiers, emptied"));
        for (int i = 0; i < 4; i++) {
            int tier = i;
            scene.access(x -> x.empty(tier));
        }
        return scene;
    }
}
