import java.util.Arrays;
import java.util.NoSuchElementException;

/**
 * The fewest reshuffles of a small yard: stacks of boxes in groups that leave one behind the
 * other, what stands on them moved aside; the same to bring stacks in order without taking any;
 * bounds, and a rule for comparison.
 */
public final class ReshuffleSearch {
    public static final int NONE = -1;

    private static final int LEAST_SIZE = 2;
    private static final int MOST_SIZE = 4;
    private static final int OTHER_SIZE = 3;
    private static final int MOST_BOXES = 6;
    private static final int MOST_GROUP = 20;
    private static final int MOST_MOVES = 30;
    private static final int RESTRICTED = 0;
    private static final int MARSHAL = 2;
    private static final int TOO_MANY = -1;
    private static final int NO_WAY = -2;

    private final int stacks;
    private final int tiers;
    /** The groups, stack by stack and from the bottom up; 0 where no box stands. */
    private final int[] place;
    private final int[] height;
    private final Ranks ranks;
    private final Search search;
    private final Way way;

    public ReshuffleSearch(int stacks, int tiers) {
        this.stacks = sizeOf(stacks);
        this.tiers = sizeOf(tiers);
        this.place = new int[MOST_SIZE * MOST_SIZE];
        this.height = new int[MOST_SIZE];
        this.ranks = new Ranks();
        this.search = new Search(this.stacks, this.tiers);
        this.way = this.search.way;
    }

    public int put(int stack, int group)
            throws ArrayIndexOutOfBoundsException, IllegalArgumentException, IllegalStateException {
        if (!isStack(stack)) {
            throw new ArrayIndexOutOfBoundsException("no such stack");
        }
        if (group < 1 || group > MOST_GROUP) {
            throw new IllegalArgumentException("no such group");
        }
        if (height[stack] >= tiers || boxes() >= MOST_BOXES) {
            throw new IllegalStateException("no room for a box");
        }
        place[stack * tiers + height[stack]] = group;
        height[stack]++;
        return height[stack];
    }

    public int off(int stack) throws ArrayIndexOutOfBoundsException, NoSuchElementException {
        if (!isStack(stack)) {
            throw new ArrayIndexOutOfBoundsException("no such stack");
        }
        if (height[stack] <= 0) {
            throw new NoSuchElementException("the stack is empty");
        }
        height[stack]--;
        int top = stack * tiers + height[stack];
        int group = place[top];
        place[top] = 0;
        return group;
    }

    public int solve(int manner, int most) throws IllegalArgumentException {
        if (manner < RESTRICTED || manner > MARSHAL) {
            throw new IllegalArgumentException("no such manner");
        }
        if (most < 0 || most > MOST_MOVES) {
            throw new IllegalArgumentException("most is not 0 .. 30");
        }
        way.drop();
        int fewest = search.fewest(manner, packed());
        if (fewest == NO_WAY) {
            return NO_WAY;
        }
        if (fewest > most) {
            return TOO_MANY;
        }
        way.keep(fewest, manner, place, ranks);
        return fewest;
    }

    public int move(int i, int side) throws IndexOutOfBoundsException {
        if (!way.has(i) || side < 0 || side > 2) {
            throw new IndexOutOfBoundsException("no such move or side");
        }
        return side == 0 ? way.from[i] : side == 1 ? way.to[i] : way.group[i];
    }

    public int follow() throws IllegalStateException {
        if (!way.isKept() || !way.startsAt(place)) {
            throw new IllegalStateException("no way is kept for these stacks");
        }
        int before = boxes();
        boolean leaving = way.manner != MARSHAL;
        long yard = packed();
        yard = leaving ? Yard.afterLeaving(yard) : yard;
        for (int i = 0; i < way.length && i < MOST_MOVES; i++) {
            yard = Yard.shifted(yard, way.from[i], way.to[i]);
            yard = leaving ? Yard.afterLeaving(yard) : yard;
        }
        unpack(yard);
        return before - boxes();
    }

    public int blocked() {
        return Yard.blockedBoxes(packed());
    }

    public int rule() {
        return Rule.moves(packed(), stacks, tiers);
    }

    public int travel(int from, int to) throws ArrayIndexOutOfBoundsException {
        if (!isStack(from) || !isStack(to)) {
            throw new ArrayIndexOutOfBoundsException("no such stack");
        }
        return travelOf(from, to);
    }

    public int at(int stack, int tier) throws ArrayIndexOutOfBoundsException {
        if (!isStack(stack) || tier < 0 || tier >= tiers) {
            throw new ArrayIndexOutOfBoundsException("no such stack or tier");
        }
        return place[stack * tiers + tier];
    }

    public int count(int what) {
        switch (what) {
            case 0:
                return boxes();
            case 1:
                return stacks;
            case 2:
                return tiers;
            case 3:
                return way.length;
            case 4:
                return way.isKept() ? way.wholeTravel() : NONE;
            case 5:
                return way.isKept() ? way.manner : NONE;
            default:
                return NONE;
        }
    }

    private static int sizeOf(int wanted) {
        return wanted >= LEAST_SIZE && wanted <= MOST_SIZE ? wanted : OTHER_SIZE;
    }

    private static int travelOf(int from, int to) {
        return 2 + Math.abs(from - to);
    }

    private boolean isStack(int stack) {
        return stack >= 0 && stack < stacks;
    }

    private int boxes() {
        int sum = 0;
        for (int s = 0; s < stacks; s++) {
            sum += height[s];
        }
        return sum;
    }

    /** The stacks as a yard of ranks; the ranks are learned anew, as the boxes may have changed. */
    private long packed() {
        ranks.learn(place);
        long yard = 0L;
        for (int s = 0; s < stacks; s++) {
            for (int t = 0; t < height[s] && t < tiers; t++) {
                yard = Yard.laid(yard, s, ranks.rankOf(place[s * tiers + t]));
            }
        }
        return yard;
    }

    /** Takes the stacks from a yard that came from the last packed one. */
    private void unpack(long yard) {
        for (int s = 0; s < stacks; s++) {
            int word = Yard.wordOf(yard, s);
            int size = Yard.sizeOf(word);
            height[s] = size;
            for (int t = 0; t < tiers; t++) {
                place[s * tiers + t] = t < size ? ranks.groupOf(Yard.rankIn(word, size - 1 - t)) : 0;
            }
        }
    }

    /**
     * The groups that are there, numbered 1 .. 6 in their order: only the order counts for a
     * search, and six ranks let a whole yard fit into one long.
     */
    private static final class Ranks {
        private final int[] rank = new int[MOST_GROUP + 1];
        private final int[] group = new int[MOST_BOXES + 1];

        void learn(int[] groups) {
            Arrays.fill(rank, 0);
            for (int g : groups) {
                if (g > 0 && g < rank.length) {
                    rank[g] = 1;
                }
            }
            int last = 0;
            for (int g = 1; g < rank.length; g++) {
                if (rank[g] != 0 && last + 1 < group.length) {
                    last++;
                    rank[g] = last;
                    group[last] = g;
                }
            }
        }

        int rankOf(int g) {
            return g > 0 && g < rank.length ? rank[g] : 0;
        }

        int groupOf(int r) {
            return r > 0 && r < group.length ? group[r] : 0;
        }
    }

    /**
     * Functions of a yard in one long: twelve bits a stack (its word), three bits a box (its rank,
     * never 0), the top box lowest, so that to lay and to lift are shifts.
     */
    private static final class Yard {
        private static final int BOX_BITS = 3;
        private static final int BOX_MASK = 7;
        private static final int STACK_BITS = 12;
        private static final long STACK_MASK = 4095L;
        /** The least rank of an empty stack: above all ranks, as 21 is above all groups. */
        private static final int ABOVE_ALL = 7;

        static int wordOf(long yard, int stack) {
            return (int) ((yard >>> (stack * STACK_BITS)) & STACK_MASK);
        }

        static int rankIn(int word, int boxesAbove) {
            return (word >>> (boxesAbove * BOX_BITS)) & BOX_MASK;
        }

        static int sizeOf(int word) {
            int size = 0;
            while (size < MOST_SIZE && rankIn(word, size) != 0) {
                size++;
            }
            return size;
        }

        static boolean isFull(int word, int tiers) {
            return rankIn(word, tiers - 1) != 0;
        }

        static long laid(long yard, int stack, int rank) {
            return withWord(yard, stack, (wordOf(yard, stack) << BOX_BITS) | rank);
        }

        static long lifted(long yard, int stack) {
            return withWord(yard, stack, wordOf(yard, stack) >>> BOX_BITS);
        }

        static long shifted(long yard, int from, int to) {
            return laid(lifted(yard, from), to, rankIn(wordOf(yard, from), 0));
        }

        static int leastRank(int word) {
            int least = ABOVE_ALL;
            for (int above = 0; above < MOST_SIZE; above++) {
                int rank = rankIn(word, above);
                least = rank != 0 && rank < least ? rank : least;
            }
            return least;
        }

        static int nextRank(long yard) {
            int next = ABOVE_ALL;
            for (int shift = 0; shift < MOST_SIZE * STACK_BITS; shift += BOX_BITS) {
                int rank = (int) (yard >>> shift) & BOX_MASK;
                next = rank != 0 && rank < next ? rank : next;
            }
            return next;
        }

        static long afterLeaving(long yard) {
            long rest = yard;
            for (int left = 0; left < MOST_BOXES; left++) {
                int stack = stackWithTop(rest, nextRank(rest));
                if (stack == NONE) {
                    return rest;
                }
                rest = lifted(rest, stack);
            }
            return rest;
        }

        static int blockedBoxes(long yard) {
            int blocked = 0;
            for (int s = 0; s < MOST_SIZE; s++) {
                blocked += blockedIn(wordOf(yard, s));
            }
            return blocked;
        }

        /** The yard with its words in order: yards that differ only by where stacks stand are one. */
        static long sorted(long yard) {
            int a = wordOf(yard, 0);
            int b = wordOf(yard, 1);
            int c = wordOf(yard, 2);
            int d = wordOf(yard, 3);
            int innerLow = Math.max(Math.min(a, b), Math.min(c, d));
            int innerHigh = Math.min(Math.max(a, b), Math.max(c, d));
            long least = Math.min(Math.min(a, b), Math.min(c, d));
            long second = Math.min(innerLow, innerHigh);
            long third = Math.max(innerLow, innerHigh);
            long most = Math.max(Math.max(a, b), Math.max(c, d));
            return least | second << STACK_BITS | third << 2 * STACK_BITS | most << 3 * STACK_BITS;
        }

        private static long withWord(long yard, int stack, int word) {
            int shift = stack * STACK_BITS;
            return (yard & ~(STACK_MASK << shift)) | ((word & STACK_MASK) << shift);
        }

        private static int stackWithTop(long yard, int rank) {
            for (int s = 0; s < MOST_SIZE; s++) {
                if (rankIn(wordOf(yard, s), 0) == rank) {
                    return s;
                }
            }
            return NONE;
        }

        private static int blockedIn(int word) {
            int blocked = 0;
            int least = ABOVE_ALL;
            for (int above = MOST_SIZE - 1; above >= 0; above--) {
                int rank = rankIn(word, above);
                if (rank > least) {
                    blocked++;
                } else if (rank != 0) {
                    least = rank;
                }
            }
            return blocked;
        }
    }

    /** The way that is kept, with the stacks as they were when it was found. */
    private static final class Way {
        private final int[] from = new int[MOST_MOVES];
        private final int[] to = new int[MOST_MOVES];
        private final int[] group = new int[MOST_MOVES];
        private final int[] start = new int[MOST_SIZE * MOST_SIZE];
        private int length = NONE;
        private int manner = NONE;

        boolean isKept() {
            return length != NONE;
        }

        boolean has(int i) {
            return i >= 0 && i < length && i < MOST_MOVES;
        }

        void drop() {
            length = NONE;
            manner = NONE;
        }

        /** A search notes ranks, since it knows no groups; they become groups when the way is kept. */
        void note(int i, int fromStack, int toStack, int rank) {
            if (i >= 0 && i < MOST_MOVES) {
                from[i] = fromStack;
                to[i] = toStack;
                group[i] = rank;
            }
        }

        void keep(int moves, int newManner, int[] place, Ranks ranks) {
            length = moves;
            manner = newManner;
            for (int i = 0; i < length && i < MOST_MOVES; i++) {
                group[i] = ranks.groupOf(group[i]);
            }
            for (int p = 0; p < start.length && p < place.length; p++) {
                start[p] = place[p];
            }
        }

        boolean startsAt(int[] place) {
            for (int p = 0; p < start.length && p < place.length; p++) {
                if (start[p] != place[p]) {
                    return false;
                }
            }
            return true;
        }

        int wholeTravel() {
            int sum = 0;
            for (int i = 0; i < length && i < MOST_MOVES; i++) {
                sum += travelOf(from[i], to[i]);
            }
            return sum;
        }
    }

    /**
     * Goes deeper move by move and tries moves in the document's order, so the first way that is
     * found is the first of the least ones. A blocked box has to move at least once, and a move
     * unblocks at most the box that it moves: so many blocked boxes need so many moves.
     */
    private static final class Search {
        private final int stacks;
        private final int tiers;
        private final Way way = new Way();
        private final Hopeless hopeless = new Hopeless();
        private int manner = NONE;

        Search(int stacks, int tiers) {
            this.stacks = stacks;
            this.tiers = tiers;
        }

        int fewest(int newManner, long yard) {
            manner = newManner;
            hopeless.forget();
            long start = settled(yard);
            for (int moves = Yard.blockedBoxes(start); moves <= MOST_MOVES; moves++) {
                if (reaches(start, 0, moves)) {
                    return moves;
                }
            }
            return NO_WAY;
        }

        private long settled(long yard) {
            return manner == MARSHAL ? yard : Yard.afterLeaving(yard);
        }

        /**
         * Without a blocked box a yard to marshal is in order, and one in which boxes have left is
         * empty: what stood on a box of the next group would be of that group, and gone.
         */
        private boolean reaches(long yard, int done, int left) {
            int needed = Yard.blockedBoxes(yard);
            if (needed == 0) {
                return true;
            }
            if (needed > left) {
                return false;
            }
            long key = Yard.sorted(yard);
            if (hopeless.isKnown(key, left)) {
                return false;
            }
            if (reachesByMove(yard, done, left)) {
                return true;
            }
            hopeless.learn(key, left);
            return false;
        }

        private boolean reachesByMove(long yard, int done, int left) {
            if (left <= 0 || done >= MOST_MOVES) {
                return false;
            }
            int next = Yard.nextRank(yard);
            for (int from = 0; from < stacks; from++) {
                int word = Yard.wordOf(yard, from);
                if (!isOpenFrom(word, next)) {
                    continue;
                }
                for (int to = 0; to < stacks; to++) {
                    if (to == from || Yard.isFull(Yard.wordOf(yard, to), tiers)) {
                        continue;
                    }
                    if (reaches(settled(Yard.shifted(yard, from, to)), done + 1, left - 1)) {
                        way.note(done, from, to, Yard.rankIn(word, 0));
                        return true;
                    }
                }
            }
            return false;
        }

        private boolean isOpenFrom(int word, int next) {
            return word != 0 && (manner != RESTRICTED || Yard.leastRank(word) == next);
        }
    }

    /**
     * Sorted yards from which no row of so many moves is a way: an entry is the yard, then five
     * bits for the moves. No search of a yard learns more than some 220; were the row ever full,
     * what is not learned would only be searched again.
     */
    private static final class Hopeless {
        private static final int SLOT_BITS = 10;
        private static final int SLOTS = 1 << SLOT_BITS;
        private static final int MOVE_BITS = 5;
        private static final long MOVE_MASK = 31L;
        private static final long SPREAD = 0x9E3779B97F4A7C15L;

        private final long[] entry = new long[SLOTS];

        void forget() {
            Arrays.fill(entry, 0L);
        }

        boolean isKnown(long key, int moves) {
            int slot = slotOf(key);
            return slot != NONE && entry[slot] != 0L && (entry[slot] & MOVE_MASK) >= moves;
        }

        void learn(long key, int moves) {
            int slot = slotOf(key);
            if (slot != NONE) {
                entry[slot] = key << MOVE_BITS | (moves & MOVE_MASK);
            }
        }

        private int slotOf(long key) {
            int home = (int) ((key * SPREAD) >>> (64 - SLOT_BITS));
            for (int step = 0; step < SLOTS; step++) {
                int slot = (home + step) & (SLOTS - 1);
                if (entry[slot] == 0L || entry[slot] >>> MOVE_BITS == key) {
                    return slot;
                }
            }
            return NONE;
        }
    }

    /** THE RULE of the document. */
    private static final class Rule {
        /** Six boxes leave, each behind at most three moves. */
        private static final int ENOUGH = 100;

        static int moves(long yard, int stacks, int tiers) {
            long rest = Yard.afterLeaving(yard);
            for (int made = 0; made < ENOUGH; made++) {
                if (rest == 0L) {
                    return made;
                }
                int from = source(rest, stacks);
                int to = target(rest, from, stacks, tiers);
                if (to == NONE) {
                    return NONE;
                }
                rest = Yard.afterLeaving(Yard.shifted(rest, from, to));
            }
            return NONE;
        }

        private static int source(long yard, int stacks) {
            int next = Yard.nextRank(yard);
            int best = 0;
            int fewest = MOST_SIZE;
            for (int s = 0; s < stacks; s++) {
                int above = boxesAbove(Yard.wordOf(yard, s), next);
                if (above < fewest) {
                    fewest = above;
                    best = s;
                }
            }
            return best;
        }

        /** How many stand above the highest box of the rank; MOST_SIZE if there is no such box. */
        private static int boxesAbove(int word, int rank) {
            for (int above = 0; above < MOST_SIZE; above++) {
                if (Yard.rankIn(word, above) == rank) {
                    return above;
                }
            }
            return MOST_SIZE;
        }

        private static int target(long yard, int from, int stacks, int tiers) {
            int rank = Yard.rankIn(Yard.wordOf(yard, from), 0);
            int fitting = NONE;
            int leastFitting = 0;
            int open = NONE;
            int greatestOpen = 0;
            for (int s = 0; s < stacks; s++) {
                int word = Yard.wordOf(yard, s);
                if (s == from || Yard.isFull(word, tiers)) {
                    continue;
                }
                int least = Yard.leastRank(word);
                if (least >= rank && (fitting == NONE || least < leastFitting)) {
                    fitting = s;
                    leastFitting = least;
                }
                if (open == NONE || least > greatestOpen) {
                    open = s;
                    greatestOpen = least;
                }
            }
            return fitting != NONE ? fitting : open;
        }
    }
}
