import java.util.Arrays;

/**
 * Axioms from which facts follow: the least sets of them that give a goal (causes), the least sets
 * without which it goes (cures), how heavy they are, which axioms stand in how many.
 *
 * <p>There are up to 16384 sets of axioms, and all of them are looked at. So that this stays cheap,
 * what is true of a set is one bit, and a long tells of 64 sets at once: the place of a bit in its
 * word gives a set's first six axioms (as bits), the number of the word gives the others.
 */
public final class LeastSets {
    public static final int BAD = -1;
    public static final int NO = -2;
    public static final int FULL = -3;

    private static final int MOST_FACTS = 24;
    private static final int MOST_AXIOMS = 14;
    private static final int MOST_WEIGHT = 1000;

    private static final int LOW_AXIOMS = 6;
    private static final int HIGH_AXIOMS = MOST_AXIOMS - LOW_AXIOMS;
    private static final int MOST_WORDS = 1 << HIGH_AXIOMS;

    // No cause holds another, and no cure does: of 14 axioms at most 14 over 7 sets can be so.
    private static final int MOST_LEAST_SETS = 3432;

    // At [a]: the places in a word whose sets have axiom a, one of the first six.
    private static final long[] PLACES_WITH = {
        0xAAAAAAAAAAAAAAAAL, 0xCCCCCCCCCCCCCCCCL, 0xF0F0F0F0F0F0F0F0L,
        0xFF00FF00FF00FF00L, 0xFFFF0000FFFF0000L, 0xFFFFFFFF00000000L
    };

    // At [n]: the places in a word whose sets have n of the first six axioms.
    private static final long[] PLACES_OF_SIZE = {
        0x0000000000000001L, 0x0000000100010116L, 0x0001011601161668L, 0x0116166816686880L,
        0x1668688068808000L, 0x6880800080000000L, 0x8000000000000000L
    };

    private final Axioms rows = new Axioms();
    private final Family family = new Family();
    private final SetList causeList = new SetList();
    private final SetList cureList = new SetList();
    private int goalFact = 0;
    // The lists are made when they are asked for, not at each of many changes.
    private boolean causesKnown = false;
    private boolean curesKnown = false;

    public LeastSets() {
    }

    public int axiom(int body, int head) {
        if (body >>> MOST_FACTS != 0 || !isFact(head)) {
            return BAD;
        }
        if (rows.count >= MOST_AXIOMS) {
            return FULL;
        }
        rows.append(body, head);
        forgetLists();
        return rows.count - 1;
    }

    public int drop(int axiom) {
        if (!rows.has(axiom)) {
            return BAD;
        }
        rows.remove(axiom);
        forgetLists();
        return rows.count;
    }

    public int fix(int axiom, boolean fixed) {
        if (!rows.has(axiom)) {
            return BAD;
        }
        boolean was = rows.fixed[axiom];
        rows.fixed[axiom] = fixed;
        curesKnown = false;
        return was ? 1 : 0;
    }

    public int weight(int axiom, int weight) {
        if (!rows.has(axiom) || weight < 0 || weight > MOST_WEIGHT) {
            return BAD;
        }
        int was = rows.weight[axiom];
        rows.weight[axiom] = weight;
        return was;
    }

    public int goal(int fact) {
        if (!isFact(fact)) {
            return BAD;
        }
        int was = goalFact;
        goalFact = fact;
        forgetLists();
        return was;
    }

    public int follow(int set) {
        return rows.factsFrom(set);
    }

    public int steps(int set) {
        int facts = 0;
        // Each step up to the goal's gives a head for the first time: no more steps than axioms.
        for (int step = 1; step <= rows.count; step++) {
            facts = rows.oneStepMore(set, facts);
            if ((facts >> goalFact & 1) != 0) {
                return step;
            }
        }
        return 0;
    }

    public int causes() {
        return knownCauses().size;
    }

    public int cures() {
        return knownCures().size;
    }

    public int cause(int i) {
        return knownCauses().at(i);
    }

    public int cure(int i) {
        return knownCures().at(i);
    }

    public int lightest() {
        SetList list = knownCures();
        int place = NO;
        int least = 0;
        for (int i = 0; i < list.size; i++) {
            int sum = rows.weightOf(list.at(i));
            if (place == NO || sum < least) {
                place = i;
                least = sum;
            }
        }
        return place;
    }

    public int times(int axiom, int cures) {
        if (!rows.has(axiom) || cures < 0 || cures > 1) {
            return BAD;
        }
        SetList list = cures == 1 ? knownCures() : knownCauses();
        return list.howManyWith(axiom);
    }

    public int within(int set) {
        return knownCauses().firstInside(set);
    }

    public int common() {
        return knownCauses().sharedByAll();
    }

    public int axioms() {
        return rows.count;
    }

    public int fact(int i) throws ArrayIndexOutOfBoundsException {
        int facts = rows.factsFrom(-1);
        if (i < 0 || i >= Integer.bitCount(facts)) {
            throw new ArrayIndexOutOfBoundsException("so many facts do not follow");
        }
        for (int passed = 0; passed < i; passed++) {
            facts &= facts - 1;
        }
        return lowestPlace(facts);
    }

    private static boolean isFact(int fact) {
        return fact >= 0 && fact < MOST_FACTS;
    }

    private static int lowestPlace(long bits) {
        return Long.bitCount((bits & -bits) - 1);
    }

    private void forgetLists() {
        causesKnown = false;
        curesKnown = false;
    }

    private SetList knownCauses() {
        if (!causesKnown) {
            int words = rows.words();
            for (int word = 0; word < words; word++) {
                family.members[word] = rows.setsThatGive(goalFact, word);
            }
            family.listLeast(words, causeList);
            causesKnown = true;
        }
        return causeList;
    }

    private SetList knownCures() {
        if (!curesKnown) {
            int words = rows.words();
            for (int word = 0; word < words; word++) {
                family.members[word] = ~rows.setsThatLeave(goalFact, word);
            }
            family.listLeast(words, cureList);
            curesKnown = true;
        }
        return cureList;
    }

    /** The axioms, one a place in each row. */
    private static final class Axioms {
        private final int[] body = new int[MOST_AXIOMS];
        private final int[] head = new int[MOST_AXIOMS];
        private final int[] weight = new int[MOST_AXIOMS];
        private final boolean[] fixed = new boolean[MOST_AXIOMS];
        private int count = 0;

        // For the 64 sets of the word at hand: at [axiom] those that have it to use, at [fact]
        // those from which it is known to follow.
        private final long[] usedBy = new long[MOST_AXIOMS];
        private final long[] givenBy = new long[MOST_FACTS];

        boolean has(int axiom) {
            return axiom >= 0 && axiom < count;
        }

        void append(int newBody, int newHead) {
            if (count < MOST_AXIOMS) {
                body[count] = newBody;
                head[count] = newHead;
                weight[count] = 1;
                fixed[count] = false;
                count++;
            }
        }

        void remove(int axiom) {
            if (has(axiom)) {
                for (int a = axiom; a + 1 < count; a++) {
                    body[a] = body[a + 1];
                    head[a] = head[a + 1];
                    weight[a] = weight[a + 1];
                    fixed[a] = fixed[a + 1];
                }
                count--;
            }
        }

        int weightOf(int set) {
            int sum = 0;
            for (int a = 0; a < count; a++) {
                if ((set >> a & 1) != 0) {
                    sum += weight[a];
                }
            }
            return sum;
        }

        int oneStepMore(int set, int facts) {
            int more = facts;
            for (int a = 0; a < count; a++) {
                // Only what held before the step counts, for steps are told apart by this.
                if ((set >> a & 1) != 0 && (body[a] & ~facts) == 0) {
                    more |= 1 << head[a];
                }
            }
            return more;
        }

        int factsFrom(int set) {
            int facts = 0;
            for (int step = 0; step < count; step++) {
                facts = oneStepMore(set, facts);
            }
            return facts;
        }

        /** Words beyond these tell of sets with axioms that there are not. */
        int words() {
            return count <= LOW_AXIOMS ? 1 : 1 << (count - LOW_AXIOMS);
        }

        /** Those sets of a word from which the goal follows. */
        long setsThatGive(int goal, int word) {
            for (int a = 0; a < count; a++) {
                usedBy[a] = setsWith(a, word);
            }
            return setsGiving(goal);
        }

        /** Those sets of a word without which the goal follows all the same. */
        long setsThatLeave(int goal, int word) {
            for (int a = 0; a < count; a++) {
                // A fixed axiom stays even where a set has it: so no least set has it.
                usedBy[a] = fixed[a] ? -1L : ~setsWith(a, word);
            }
            return setsGiving(goal);
        }

        private long setsWith(int axiom, int word) {
            if (axiom < LOW_AXIOMS) {
                return PLACES_WITH[axiom];
            }
            return (word >> (axiom - LOW_AXIOMS) & 1) != 0 ? -1L : 0L;
        }

        private long setsGiving(int goal) {
            Arrays.fill(givenBy, 0L);
            boolean grown = true;
            // A round takes each set at least a step on: no more rounds than axioms.
            for (int round = 0; round < count && grown; round++) {
                grown = false;
                for (int a = 0; a < count; a++) {
                    long fresh = setsGivingAll(body[a], usedBy[a] & ~givenBy[head[a]]);
                    givenBy[head[a]] |= fresh;
                    grown = grown || fresh != 0;
                }
            }
            return givenBy[goal];
        }

        private long setsGivingAll(int facts, long among) {
            long sets = among;
            int rest = facts;
            int left = Integer.bitCount(facts);
            for (int k = 0; k < left && sets != 0; k++) {
                sets &= givenBy[lowestPlace(rest)];
                rest &= rest - 1;
            }
            return sets;
        }
    }

    /** Sets of axioms, a bit each, among them with every set all those that hold it. */
    private static final class Family {
        private final long[] members = new long[MOST_WORDS];
        private final long[] least = new long[MOST_WORDS];

        /** Lists the members from which no axiom can be taken, in the ORDER. */
        void listLeast(int words, SetList list) {
            for (int word = 0; word < words; word++) {
                least[word] = leastOf(word);
            }
            list.clear();
            for (int size = 0; size <= MOST_AXIOMS; size++) {
                for (int word = 0; word < words; word++) {
                    int lowSize = size - Integer.bitCount(word);
                    if (lowSize >= 0 && lowSize <= LOW_AXIOMS) {
                        list.addAll(word, least[word] & PLACES_OF_SIZE[lowSize]);
                    }
                }
            }
        }

        private long leastOf(int word) {
            long sets = members[word];
            for (int a = 0; a < LOW_AXIOMS; a++) {
                long oneMore = members[word] << (1 << a) & PLACES_WITH[a];
                sets &= ~oneMore;
            }
            for (int a = 0; a < HIGH_AXIOMS; a++) {
                if ((word >> a & 1) != 0) {
                    sets &= ~members[word ^ 1 << a];
                }
            }
            return sets;
        }
    }

    /** Sets of axioms in the ORDER. */
    private static final class SetList {
        private final int[] sets = new int[MOST_LEAST_SETS];
        private int size = 0;

        void clear() {
            size = 0;
        }

        void addAll(int word, long places) {
            long rest = places;
            int left = Long.bitCount(places);
            for (int k = 0; k < left && size < MOST_LEAST_SETS; k++) {
                sets[size] = (word << LOW_AXIOMS) + lowestPlace(rest);
                size++;
                rest &= rest - 1;
            }
        }

        int at(int i) {
            return i >= 0 && i < size ? sets[i] : NO;
        }

        int howManyWith(int axiom) {
            int many = 0;
            for (int i = 0; i < size; i++) {
                many += sets[i] >> axiom & 1;
            }
            return many;
        }

        int firstInside(int set) {
            for (int i = 0; i < size; i++) {
                if ((sets[i] & ~set) == 0) {
                    return sets[i];
                }
            }
            return NO;
        }

        int sharedByAll() {
            if (size == 0) {
                return NO;
            }
            int shared = -1;
            for (int i = 0; i < size; i++) {
                shared &= sets[i];
            }
            return shared;
        }
    }
}
