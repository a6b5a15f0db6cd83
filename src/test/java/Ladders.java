import java.util.ArrayList;
import java.util.List;
import java.util.Random;
import java.util.Set;
import java.util.TreeSet;

/**
 * Ladders with no tier, one, two, three and four: each way to write, closed and not, above and
 * below each other, with sets, ways and ways to choose that are drawn from a fixed row.
 */
final class Ladders {
    private static final int KINDS = 6;
    // Of few tiers there are few kinds, so that each of them comes more often.
    private static final int[] TIMES = {8, 24, 6, 1, 1};

    record Shape(int sets, int ways, int choosing, int writing, boolean closed) {
        private String told() {
            return choosing + " " + writing + " " + closed;
        }
    }

    private Ladders() {
    }

    static List<List<Shape>> all() {
        List<List<Shape>> all = new ArrayList<>();
        // A row from which dueAllKinds finds every kind.
        Random random = new Random(2);
        for (int tiers = 0; tiers < TIMES.length; tiers++) {
            int kinds = (int) Math.pow(KINDS, tiers);
            for (int i = 0; i < kinds * TIMES[tiers]; i++) {
                all.add(ladder(tiers, i % kinds, random));
            }
        }
        return all;
    }

    private static List<Shape> ladder(int tiers, int kinds, Random random) {
        List<Shape> ladder = new ArrayList<>();
        int left = kinds;
        for (int tier = 0; tier < tiers; tier++) {
            // Few sets more often than many: then more lines leave.
            int sets = 1 << random.nextInt(random.nextBoolean() ? 2 : 5);
            int kind = left % KINDS;
            left /= KINDS;
            ladder.add(new Shape(sets, 1 + random.nextInt(4), random.nextInt(4), kind % 3, kind >= 3));
        }
        return ladder;
    }

    /** The ladders have each kind of tier at each place, and each kind just below each kind. */
    static void dueAllKinds(Check check) {
        Set<String> places = new TreeSet<>();
        Set<String> pairs = new TreeSet<>();
        for (List<Shape> ladder : all()) {
            for (int tier = 0; tier < ladder.size(); tier++) {
                places.add(tier + " of " + ladder.size() + ": " + ladder.get(tier).told());
                if (tier > 0) {
                    pairs.add(ladder.get(tier - 1).told() + ", " + ladder.get(tier).told());
                }
            }
        }
        int kinds = 4 * 3 * 2;
        check.due("kinds of tiers at the places of 1, 2, 3 and 4", places.size(), kinds * (1 + 2 + 3 + 4));
        check.due("kinds of tiers below each other", pairs.size(), kinds * kinds);
    }

    /** Two tiers above can have a word dirty each; then a closed AROUND tier writes the older last. */
    static boolean keepsNewest(List<Shape> ladder) {
        for (int tier = 2; tier < ladder.size(); tier++) {
            if (ladder.get(tier).closed && ladder.get(tier).writing == 2) {
                return false;
            }
        }
        return true;
    }
}
