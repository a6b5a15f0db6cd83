import java.util.ArrayList;
import java.util.List;

/**
 * The document's Terms said a second time, for comparison: levels that are chained to one another,
 * lines that are made and thrown away, and orders that are kept as lists.
 */
final class PlainLadder {
    final List<Shelf> shelves = new ArrayList<>();
    final Ground ground = new Ground();

    interface Level {
        int[] read(int block);

        void write(int block, Integer[] words);
    }

    static final class Ground implements Level {
        final int[] words = new int[1024];
        int loads;
        int stores;

        @Override
        public int[] read(int block) {
            loads++;
            return java.util.Arrays.copyOfRange(words, 4 * block, 4 * block + 4);
        }

        @Override
        public void write(int block, Integer[] some) {
            stores++;
            for (int i = 0; i < 4; i++) {
                if (some[i] != null) {
                    words[4 * block + i] = some[i];
                }
            }
        }
    }

    /** A line: its words, and those that are dirty once more (null where they are not). */
    static final class Card {
        final int block;
        final int[] words;
        Integer[] newer = new Integer[4];
        int uses;
        boolean marked;

        Card(int block, int[] words) {
            this.block = block;
            this.words = words;
        }

        void put(Integer[] some) {
            for (int i = 0; i < 4; i++) {
                if (some[i] != null) {
                    words[i] = some[i];
                }
            }
        }

        int bits() {
            int bits = 0;
            for (int i = 0; i < 4; i++) {
                bits += newer[i] == null ? 0 : 1 << i;
            }
            return bits;
        }
    }

    final class Shelf implements Level {
        final int number;
        final int sets;
        final int ways;
        final int choosing;
        final int writing;
        final boolean closed;
        final Card[][] cards;
        final int[] hands;
        final int[] counts = new int[6];
        final List<Card> byPlacing = new ArrayList<>();
        final List<Card> byUse = new ArrayList<>();

        Shelf(int sets, int ways, int choosing, int writing, boolean closed) {
            number = shelves.size();
            this.sets = sets;
            this.ways = ways;
            this.choosing = choosing;
            this.writing = writing;
            this.closed = closed;
            cards = new Card[sets][ways];
            hands = new int[sets];
        }

        Level below() {
            return number + 1 < shelves.size() ? shelves.get(number + 1) : ground;
        }

        int wayOf(int block) {
            for (int way = 0; way < ways; way++) {
                Card card = cards[block % sets][way];
                if (card != null && card.block == block) {
                    return way;
                }
            }
            return -1;
        }

        Card card(int block) {
            int way = wayOf(block);
            return way < 0 ? null : cards[block % sets][way];
        }

        void use(Card card) {
            byUse.remove(card);
            byUse.add(card);
            card.uses++;
            card.marked = true;
        }

        void remove(Card card) {
            int way = wayOf(card.block);
            if (way >= 0 && cards[card.block % sets][way] == card) {
                cards[card.block % sets][way] = null;
                byPlacing.remove(card);
                byUse.remove(card);
            }
        }

        boolean isFull(int set) {
            for (Card card : cards[set]) {
                if (card == null) {
                    return false;
                }
            }
            return true;
        }

        /** The way of the line that goes; with turn, the hand and the marks change. */
        int chosenWay(int set, boolean turn) {
            if (choosing == 2) {
                return clockWay(set, turn);
            }
            Card best = null;
            for (Card card : choosing == 1 ? byUse : byPlacing) {
                boolean here = card.block % sets == set;
                if (here && (best == null || choosing == 3 && card.uses < best.uses)) {
                    best = card;
                }
            }
            return wayOf(best.block);
        }

        private int clockWay(int set, boolean turn) {
            boolean[] marks = new boolean[ways];
            for (int way = 0; way < ways; way++) {
                marks[way] = cards[set][way].marked;
            }
            int hand = hands[set];
            while (marks[hand]) {
                marks[hand] = false;
                hand = (hand + 1) % ways;
            }
            if (turn) {
                for (int way = 0; way < ways; way++) {
                    cards[set][way].marked = marks[way];
                }
                hands[set] = (hand + 1) % ways;
            }
            return hand;
        }

        @Override
        public int[] read(int block) {
            Card card = card(block);
            if (card != null) {
                counts[0]++;
                use(card);
            } else {
                counts[1]++;
                card = fetch(block, true);
            }
            return card.words.clone();
        }

        Card fetch(int block, boolean reads) {
            int set = block % sets;
            int way;
            if (isFull(set)) {
                way = chosenWay(set, true);
                counts[4]++;
                leave(cards[set][way]);
            } else {
                way = 0;
                while (cards[set][way] != null) {
                    way++;
                }
            }
            Card card = new Card(block, reads ? below().read(block) : new int[4]);
            cards[set][way] = card;
            byPlacing.add(card);
            use(card);
            return card;
        }

        void leave(Card card) {
            for (int above = number - 1; closed && above >= 0; above--) {
                Card upper = shelves.get(above).card(card.block);
                if (upper != null) {
                    card.put(upper.newer);
                    for (int i = 0; i < 4; i++) {
                        card.newer[i] = upper.newer[i] != null ? upper.newer[i] : card.newer[i];
                    }
                    shelves.get(above).remove(upper);
                }
            }
            clean(card);
            remove(card);
        }

        int clean(Card card) {
            Integer[] newer = card.newer;
            int n = Integer.bitCount(card.bits());
            card.newer = new Integer[4];
            if (n > 0) {
                pass(card.block, newer);
            }
            return n;
        }

        void pass(int block, Integer[] some) {
            for (Integer word : some) {
                counts[5] += word != null ? 1 : 0;
            }
            below().write(block, some);
        }

        @Override
        public void write(int block, Integer[] some) {
            Card card = card(block);
            if (writing == 2) {
                counts[3]++;
                if (card != null) {
                    leave(card);
                }
                pass(block, some);
                return;
            }
            if (card != null) {
                counts[2]++;
                use(card);
            } else {
                counts[3]++;
                boolean all = some[0] != null && some[1] != null && some[2] != null && some[3] != null;
                card = fetch(block, !all || isClosedBelow());
            }
            card.put(some);
            if (writing == 0) {
                pass(block, some);
                return;
            }
            for (int i = 0; i < 4; i++) {
                card.newer[i] = some[i] != null ? some[i] : card.newer[i];
            }
        }

        boolean isClosedBelow() {
            for (Shelf shelf : shelves) {
                if (shelf.number > number && shelf.closed) {
                    return true;
                }
            }
            return false;
        }

        List<Card> inOrder() {
            List<Card> all = new ArrayList<>();
            for (Card[] set : cards) {
                for (Card card : set) {
                    if (card != null) {
                        all.add(card);
                    }
                }
            }
            return all;
        }
    }

    Level top() {
        return shelves.isEmpty() ? ground : shelves.get(0);
    }

    void tier(int sets, int ways, int choosing, int writing, boolean closed) {
        shelves.add(new Shelf(sets, ways, choosing, writing, closed));
    }

    int read(int word) {
        return top().read(word / 4)[word % 4];
    }

    void write(int word, int value) {
        fill(word, 1, value, 0);
    }

    void fill(int word, int n, int value, int step) {
        Integer[] some = new Integer[4];
        for (int i = 0; i < n; i++) {
            int at = word + i;
            some[at % 4] = value + i * step;
            if (at % 4 == 3 || i == n - 1) {
                top().write(at / 4, some);
                some = new Integer[4];
            }
        }
    }

    int peek(int word) {
        for (Shelf shelf : shelves) {
            Card card = shelf.card(word / 4);
            if (card != null) {
                return card.words[word % 4];
            }
        }
        return ground.words[word];
    }

    int flush(int tier) {
        int words = 0;
        for (Card card : shelves.get(tier).inOrder()) {
            if (shelves.get(tier).card(card.block) == card) {
                words += shelves.get(tier).clean(card);
            }
        }
        return words;
    }

    int empty(int tier) {
        int left = 0;
        for (Card card : shelves.get(tier).inOrder()) {
            if (shelves.get(tier).card(card.block) == card) {
                shelves.get(tier).leave(card);
                left++;
            }
        }
        return left;
    }

    int crash() {
        int lost = 0;
        for (int word = 0; word < 1024; word++) {
            lost += peek(word) != ground.words[word] ? 1 : 0;
        }
        for (Shelf shelf : shelves) {
            for (Card card : shelf.inOrder()) {
                shelf.remove(card);
            }
            java.util.Arrays.fill(shelf.hands, 0);
        }
        return lost;
    }
}
