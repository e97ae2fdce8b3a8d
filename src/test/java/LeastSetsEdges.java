import java.lang.reflect.InvocationTargetException;
import java.lang.reflect.Method;
import java.util.ArrayList;
import java.util.Arrays;
import java.util.List;
import java.util.Map;
import java.util.TreeMap;

/**
 * The boundary cases of the document: a test for each sentence that names one, with its promise's
 * number in its name; above it stand the document's words (between quotes) or what edge of them is
 * meant. A sentence of the 'Terms' or of 'What it is' is tested under the promise through which it
 * is seen. Every method whose name begins with "promise" is a test, and is run by itself, so that a
 * broken one hides no other.
 */
public final class LeastSetsEdges {
    private static final int BAD = -1;
    private static final int NO = -2;
    private static final int FULL = -3;
    private static final int LEAST = Integer.MIN_VALUE;
    private static final int MOST = Integer.MAX_VALUE;
    private static final int PROMISES = 18;

    private static String test = "";
    private static int asked = 0;
    private static int wrong = 0;

    private static void due(String call, int got, int want) {
        asked++;
        if (got != want) {
            wrong++;
            System.out.println(test + ": " + call + " answered " + got + ", due is " + want);
        }
    }

    private static void dueSame(String when, String got, String want) {
        asked++;
        if (!got.equals(want)) {
            wrong++;
            System.out.println(test + ": " + when + " told " + got + ", due is " + want);
        }
    }

    private static void dueThrow(LeastSets x, int i) {
        Class<?> threw = null;
        try {
            x.fact(i);
        } catch (RuntimeException e) {
            threw = e.getClass();
        }
        String due = "class java.lang.ArrayIndexOutOfBoundsException";
        dueSame("fact(" + i + ")", String.valueOf(threw), due);
    }

    private static void dueCauses(LeastSets x, int... want) {
        dueSame("causes", causesOf(x), Arrays.toString(want));
    }

    private static void dueCures(LeastSets x, int... want) {
        dueSame("cures", curesOf(x), Arrays.toString(want));
    }

    private static String causesOf(LeastSets x) {
        List<Integer> sets = new ArrayList<>();
        int many = x.causes();
        for (int i = 0; i < many; i++) {
            sets.add(x.cause(i));
        }
        return sets.toString();
    }

    private static String curesOf(LeastSets x) {
        List<Integer> sets = new ArrayList<>();
        int many = x.cures();
        for (int i = 0; i < many; i++) {
            sets.add(x.cure(i));
        }
        return sets.toString();
    }

    /**
     * All that an object tells; what only a change tells is changed and put back, and that last.
     * Twice this stays under 512 calls if there are few causes and cures.
     */
    private static String told(LeastSets x) {
        StringBuilder text = new StringBuilder();
        text.append(x.axioms()).append(" causes ").append(causesOf(x));
        text.append(" cures ").append(curesOf(x)).append(" lightest ").append(x.lightest());
        text.append(" common ").append(x.common()).append(" within ").append(x.within(-1));
        text.append(" follow ").append(x.follow(-1)).append(" steps ").append(x.steps(-1));
        for (int a = 0; a < x.axioms(); a++) {
            text.append(" axiom ").append(x.follow(1 << a)).append(' ').append(x.follow(~(1 << a)));
            text.append(' ').append(x.times(a, 0)).append(' ').append(x.times(a, 1));
        }
        for (int a = 0; a < x.axioms(); a++) {
            int weight = x.weight(a, 0);
            x.weight(a, weight);
            int fixed = x.fix(a, true);
            x.fix(a, fixed == 1);
            text.append(" weight ").append(weight).append(" fixed ").append(fixed);
        }
        int goal = x.goal(0);
        x.goal(goal);
        return text.append(" goal ").append(goal).toString();
    }

    private static int bits(int... places) {
        int set = 0;
        for (int place : places) {
            set |= 1 << place;
        }
        return set;
    }

    /** Numbers that no axiom has when there are so many; 32 and its like wrap in a shift. */
    private static int[] noAxioms(int count) {
        return new int[] {
            -1, count, count + 1, 14, 15, 31, 32, 33, 64, 256, 65536, -2, -14, -32, LEAST,
            LEAST + 1, MOST, MOST - 1
        };
    }

    /** Numbers that are no facts. */
    private static int[] noFacts() {
        return new int[] {
            -1, 24, 25, 31, 32, 33, 55, 56, 64, 256, 65536, -2, -9, -32, LEAST, LEAST + 1, MOST
        };
    }

    /** Goal 0 by fact 1 (axioms 0, 2) or by fact 2 (axioms 1, 3). */
    private static LeastSets twoWays() {
        LeastSets x = new LeastSets();
        x.axiom(0, 1);
        x.axiom(0, 2);
        x.axiom(bits(1), 0);
        x.axiom(bits(2), 0);
        return x;
    }

    /** Fourteen axioms in layers of 3, 3, 3, 3, 2, each of which gives the next; goal 5. */
    private static LeastSets layers() {
        LeastSets x = new LeastSets();
        for (int i = 0; i < 14; i++) {
            int layer = i / 3;
            x.axiom(layer == 0 ? 0 : bits(layer), layer + 1);
        }
        x.goal(5);
        return x;
    }

    /** Fourteen axioms in ways of 3, 3, 3, 3, 2, each of which gives the goal 0 by itself. */
    private static LeastSets ways() {
        LeastSets x = new LeastSets();
        for (int i = 0; i < 14; i++) {
            boolean last = i % 3 == 2 || i == 13;
            x.axiom(i % 3 == 0 ? 0 : bits(i), last ? 0 : i + 1);
        }
        return x;
    }

    /** One of each of the fives that layers() and ways() have, in the ORDER. */
    private static int[] oneOfEach() {
        int[] sets = new int[162];
        for (int i = 0; i < 162; i++) {
            int high = i / 81;
            sets[i] = bits(i % 3, 3 + i / 3 % 3, 6 + i / 9 % 3, 9 + i / 27 % 3, 12 + high);
        }
        Arrays.sort(sets);
        return sets;
    }

    /** Goal 0 by fact 1, that by 2, and so on to 13, which holds: axioms against their steps. */
    private static LeastSets chain() {
        LeastSets x = new LeastSets();
        for (int i = 0; i < 13; i++) {
            x.axiom(bits(i + 1), i);
        }
        x.axiom(0, 13);
        return x;
    }

    // ---- 1, a new object

    // "No axioms"
    static void promise01NewHasNoAxioms() {
        LeastSets x = new LeastSets();
        due("axioms()", x.axioms(), 0);
        for (int axiom : noAxioms(0)) {
            due("drop(" + axiom + ")", x.drop(axiom), BAD);
        }
        due("follow(-1)", x.follow(-1), 0);
        due("steps(-1)", x.steps(-1), 0);
    }

    // "the goal is fact 0"
    static void promise01NewHasGoalZero() {
        due("goal(23)", new LeastSets().goal(23), 0);
        LeastSets x = new LeastSets();
        x.axiom(0, 0);
        dueCauses(x, 1);
    }

    // "An object is used for at most 512 calls after it has been made"
    static void promise01LastOf512CallsIsAnswered() {
        LeastSets x = layers();
        // layers() makes calls 1 to 15, and each round three more.
        for (int calls = 15; calls < 510; calls += 3) {
            due("fix", x.fix(calls / 3 % 14, true), 0);
            due("fix back", x.fix(calls / 3 % 14, false), 1);
            due("lightest()", x.lightest(), 0);
        }
        due("call 511", x.cures(), 5);
        due("call 512", x.causes(), 162);
    }

    // "No axioms; the goal is fact 0": of this object, whatever others were told
    static void promise01ObjectsShareNothing() {
        LeastSets first = new LeastSets();
        first.axiom(0, 9);
        first.goal(9);
        LeastSets second = new LeastSets();
        due("axioms()", second.axioms(), 0);
        due("causes()", second.causes(), 0);
        due("causes() of the first", first.causes(), 1);
        due("goal(1)", second.goal(1), 0);
        due("goal(1) of the first", first.goal(1), 9);
    }

    // ---- 2, axiom

    // "its number", and of the Terms: "numbered from 0"
    static void promise02NumbersAreFromZero() {
        LeastSets x = new LeastSets();
        for (int i = 0; i < 14; i++) {
            due("axiom " + i, x.axiom(0, 23 - i), i);
        }
    }

    // "not fixed"
    static void promise02IsNotFixed() {
        LeastSets x = new LeastSets();
        x.axiom(0, 0);
        due("fix(0)", x.fix(0, true), 0);
        x.drop(0);
        x.axiom(0, 0);
        due("fix(0) where a fixed one was", x.fix(0, false), 0);
        dueCures(x, 1);
    }

    // of the Terms: "a WEIGHT (1 at first)"
    static void promise02WeightIsOneAtFirst() {
        LeastSets x = new LeastSets();
        x.axiom(0, 0);
        due("weight(0)", x.weight(0, 900), 1);
        x.drop(0);
        x.axiom(0, 0);
        due("weight(0) where a heavy one was", x.weight(0, 2), 1);
    }

    // "BAD when body has other bits than 0 .. 23"
    static void promise02BodyWithOtherBitsIsBad() {
        LeastSets x = new LeastSets();
        for (int bit = 24; bit < 32; bit++) {
            due("axiom(bit " + bit + ")", x.axiom(1 << bit, 0), BAD);
            due("axiom(bits 0, " + bit + ")", x.axiom(1 | 1 << bit, 0), BAD);
        }
        due("axiom(-1)", x.axiom(-1, 0), BAD);
        due("axiom(most)", x.axiom(MOST, 0), BAD);
        due("axiom(~0xFFFFFF)", x.axiom(~0xFFFFFF, 0), BAD);
        due("axioms()", x.axioms(), 0);
    }

    // the other side of it: bits 0 .. 23 are a body, all of them and each
    static void promise02BodyOfBits0To23IsTaken() {
        LeastSets x = new LeastSets();
        due("axiom(all)", x.axiom(0xFFFFFF, 0), 0);
        due("axiom(bit 23)", x.axiom(1 << 23, 0), 1);
        due("axiom(bit 0)", x.axiom(1, 0), 2);
        due("axiom(none)", x.axiom(0, 0), 3);
    }

    // "or head is no fact"
    static void promise02HeadThatIsNoFactIsBad() {
        LeastSets x = new LeastSets();
        for (int fact : noFacts()) {
            due("axiom(0, " + fact + ")", x.axiom(0, fact), BAD);
        }
        due("axioms()", x.axioms(), 0);
    }

    // of the Terms: "FACTS are 0 .. 23"
    static void promise02HeadsAreFacts0To23() {
        for (int fact = 0; fact < 24; fact++) {
            LeastSets x = new LeastSets();
            due("axiom(0, " + fact + ")", x.axiom(0, fact), 0);
            due("follow(1), " + fact, x.follow(1), 1 << fact);
        }
    }

    // "FULL", and of the Terms: "at most 14"
    static void promise02FifteenthIsFull() {
        LeastSets x = layers();
        due("the fifteenth", x.axiom(0, 5), FULL);
        due("the fifteenth again", x.axiom(0, 5), FULL);
        due("axioms()", x.axioms(), 14);
        due("drop(13)", x.drop(13), 13);
        due("the fourteenth", x.axiom(0, 5), 13);
        due("the fifteenth once more", x.axiom(0, 5), FULL);
    }

    // both at once: BAD is told of the arguments, and stands first in the document
    static void promise02BadOnAFullObjectIsBad() {
        LeastSets x = layers();
        due("axiom(bit 24)", x.axiom(1 << 24, 0), BAD);
        due("axiom(head 24)", x.axiom(0, 24), BAD);
        due("axiom(head -1)", x.axiom(0, -1), BAD);
    }

    // BAD and FULL are answers in the place of a change
    static void promise02RefusedChangesNothing() {
        LeastSets x = twoWays();
        String before = told(x);
        x.axiom(1 << 24, 0);
        x.axiom(0, 24);
        x.axiom(0, -1);
        dueSame("after BAD", told(x), before);
        LeastSets full = chain();
        String fullBefore = told(full);
        full.axiom(0, 0);
        dueSame("after FULL", told(full), fullBefore);
    }

    // ---- 3, drop

    // "those behind it get numbers that are one less"
    static void promise03FirstGoes() {
        LeastSets x = twoWays();
        x.weight(1, 21);
        x.fix(2, true);
        due("drop(0)", x.drop(0), 3);
        due("weight(0)", x.weight(0, 1), 21);
        due("fix(1)", x.fix(1, false), 1);
        due("fix(2)", x.fix(2, false), 0);
        dueCauses(x, bits(0, 2));
        due("weight(3)", x.weight(3, 1), BAD);
    }

    // "those behind it": those before it keep theirs
    static void promise03LastGoes() {
        LeastSets x = twoWays();
        x.weight(2, 21);
        x.fix(2, true);
        due("drop(3)", x.drop(3), 3);
        due("weight(2)", x.weight(2, 1), 21);
        due("fix(2)", x.fix(2, false), 1);
        dueCauses(x, bits(0, 2));
        due("follow(8)", x.follow(8), 0);
    }

    // "An axiom goes", of fourteen as of fewer
    static void promise03GoesFromAFullObject() {
        LeastSets x = layers();
        x.weight(13, 21);
        x.fix(13, true);
        due("drop(0)", x.drop(0), 13);
        due("weight(13)", x.weight(13, 1), BAD);
        due("weight(12)", x.weight(12, 1), 21);
        due("fix(12)", x.fix(12, false), 1);
        due("causes()", x.causes(), 108);
        dueCures(x, 3, 6144, 28, 224, 1792);
        due("cause(0)", x.cause(0), bits(0, 2, 5, 8, 11));
    }

    // "how many are left": none at last
    static void promise03OnlyOneGoes() {
        LeastSets x = new LeastSets();
        x.axiom(0, 0);
        due("drop(0)", x.drop(0), 0);
        due("drop(0) again", x.drop(0), BAD);
        dueCauses(x);
        dueCures(x, 0);
        due("follow(-1)", x.follow(-1), 0);
        dueThrow(x, 0);
    }

    // "BAD"
    static void promise03NoSuchAxiomIsBad() {
        LeastSets x = twoWays();
        for (int axiom : noAxioms(4)) {
            due("drop(" + axiom + ")", x.drop(axiom), BAD);
        }
        LeastSets full = layers();
        for (int axiom : noAxioms(14)) {
            due("full: drop(" + axiom + ")", full.drop(axiom), BAD);
        }
        due("axioms()", full.axioms(), 14);
    }

    // "BAD" is an answer in the place of a change
    static void promise03RefusedChangesNothing() {
        LeastSets x = twoWays();
        String before = told(x);
        for (int axiom : noAxioms(4)) {
            x.drop(axiom);
        }
        dueSame("after BAD", told(x), before);
    }

    // ---- 4, fix

    // "whether it was"
    static void promise04TellsWhetherItWas() {
        LeastSets x = twoWays();
        due("free, was free", x.fix(3, false), 0);
        due("fixed, was free", x.fix(3, true), 0);
        due("fixed, was fixed", x.fix(3, true), 1);
        due("free, was fixed", x.fix(3, false), 1);
        due("free again", x.fix(3, false), 0);
    }

    // "An axiom is fixed": the first and the last of fourteen, and no other
    static void promise04FirstAndLastOfFourteen() {
        LeastSets x = layers();
        due("fix(0)", x.fix(0, true), 0);
        due("fix(13)", x.fix(13, true), 0);
        for (int axiom = 1; axiom < 13; axiom++) {
            due("fix(" + axiom + ")", x.fix(axiom, false), 0);
        }
        dueCures(x, 56, 448, 3584);
    }

    // "BAD as told"
    static void promise04NoSuchAxiomIsBad() {
        LeastSets x = twoWays();
        for (int axiom : noAxioms(4)) {
            due("fix(" + axiom + ", true)", x.fix(axiom, true), BAD);
            due("fix(" + axiom + ", false)", x.fix(axiom, false), BAD);
        }
        due("new: fix(0, true)", new LeastSets().fix(0, true), BAD);
    }

    // "BAD" is an answer in the place of a change
    static void promise04RefusedChangesNothing() {
        LeastSets x = twoWays();
        x.fix(1, true);
        String before = told(x);
        for (int axiom : noAxioms(4)) {
            x.fix(axiom, true);
        }
        dueSame("after BAD, true", told(x), before);
        for (int axiom : noAxioms(4)) {
            x.fix(axiom, false);
        }
        dueSame("after BAD, false", told(x), before);
        x.axiom(0, 7);
        due("the next axiom is not fixed", x.fix(4, true), 0);
    }

    // ---- 5, weight

    // "0 .. 1000"
    static void promise05ZeroAnd1000AreTaken() {
        LeastSets x = twoWays();
        due("weight(0, 0)", x.weight(0, 0), 1);
        due("weight(0, 1000)", x.weight(0, 1000), 0);
        due("weight(0, 999)", x.weight(0, 999), 1000);
        due("weight(0, 1)", x.weight(0, 1), 999);
    }

    // "0 .. 1000": less is BAD
    static void promise05TooLightIsBad() {
        LeastSets x = twoWays();
        int[] weights = {-1, -2, -1000, LEAST, LEAST + 1};
        for (int weight : weights) {
            due("weight(0, " + weight + ")", x.weight(0, weight), BAD);
        }
        due("weight(0, 5)", x.weight(0, 5), 1);
    }

    // "0 .. 1000": more is BAD
    static void promise05TooHeavyIsBad() {
        LeastSets x = twoWays();
        int[] weights = {1001, 1002, 1024, 65536, MOST};
        for (int weight : weights) {
            due("weight(0, " + weight + ")", x.weight(0, weight), BAD);
        }
        due("weight(0, 5)", x.weight(0, 5), 1);
    }

    // "BAD": no such axiom
    static void promise05NoSuchAxiomIsBad() {
        LeastSets x = twoWays();
        for (int axiom : noAxioms(4)) {
            due("weight(" + axiom + ", 1)", x.weight(axiom, 1), BAD);
            due("weight(" + axiom + ", -1)", x.weight(axiom, -1), BAD);
        }
        due("new: weight(0, 1)", new LeastSets().weight(0, 1), BAD);
    }

    // "BAD" is an answer in the place of a change
    static void promise05RefusedChangesNothing() {
        LeastSets x = twoWays();
        x.weight(0, 3);
        String before = told(x);
        x.weight(0, -1);
        x.weight(0, 1001);
        for (int axiom : noAxioms(4)) {
            x.weight(axiom, 7);
        }
        dueSame("after BAD", told(x), before);
        x.axiom(0, 7);
        due("the next axiom's weight", x.weight(4, 1), 1);
    }

    // ---- 6, goal

    // of the Terms: "FACTS are 0 .. 23"; "the one that it was"
    static void promise06GoalsAreFacts0To23() {
        LeastSets x = new LeastSets();
        for (int fact = 1; fact < 24; fact++) {
            due("goal(" + fact + ")", x.goal(fact), fact - 1);
        }
        due("goal(0)", x.goal(0), 23);
    }

    // "another fact": the same once more changes nothing, and is told
    static void promise06SameGoalAgain() {
        LeastSets x = layers();
        due("goal(5)", x.goal(5), 5);
        due("causes()", x.causes(), 162);
    }

    // "The goal is another fact": at once, for all that is told of it
    static void promise06LastFactAsGoal() {
        LeastSets x = new LeastSets();
        x.axiom(0, 23);
        dueCauses(x);
        dueCures(x, 0);
        due("goal(23)", x.goal(23), 0);
        dueCauses(x, 1);
        dueCures(x, 1);
        due("steps(1)", x.steps(1), 1);
        due("within(1)", x.within(1), 1);
        due("common()", x.common(), 1);
        due("times(0, 0)", x.times(0, 0), 1);
    }

    // "BAD"
    static void promise06NoFactIsBad() {
        LeastSets x = twoWays();
        for (int fact : noFacts()) {
            due("goal(" + fact + ")", x.goal(fact), BAD);
        }
    }

    // "BAD" is an answer in the place of a change
    static void promise06RefusedChangesNothing() {
        LeastSets x = twoWays();
        x.goal(2);
        String before = told(x);
        for (int fact : noFacts()) {
            x.goal(fact);
        }
        dueSame("after BAD", told(x), before);
        due("goal(0)", x.goal(0), 2);
    }

    // ---- 7, follow

    // "bits of no axiom do not count"
    static void promise07BitsOfNoAxiomDoNotCount() {
        LeastSets x = twoWays();
        for (int bit = 4; bit < 32; bit++) {
            due("follow(bit " + bit + ")", x.follow(1 << bit), 0);
            due("follow(bits 0, " + bit + ")", x.follow(1 | 1 << bit), bits(1));
        }
        due("follow(~15)", x.follow(~15), 0);
        due("follow(least)", x.follow(LEAST), 0);
        due("follow(most)", x.follow(MOST), 7);
        due("follow(-1)", x.follow(-1), 7);
        due("full: follow(~0x3FFF)", layers().follow(~0x3FFF), 0);
        due("full: follow(-1)", layers().follow(-1), 62);
    }

    // the bits of an axiom that went are bits of no axiom
    static void promise07BitOfADroppedAxiomDoesNotCount() {
        LeastSets x = new LeastSets();
        x.axiom(0, 3);
        x.axiom(0, 4);
        x.drop(1);
        due("follow(2)", x.follow(2), 0);
        due("follow(3)", x.follow(3), 8);
    }

    // of the Terms: "beginning with none"
    static void promise07NothingFollowsFromTheEmptySet() {
        due("follow(0)", layers().follow(0), 0);
        due("new: follow(0)", new LeastSets().follow(0), 0);
    }

    // of the Terms: "(a BODY, bits; perhaps none)"
    static void promise07HeadOfAnEmptyBodyHolds() {
        LeastSets x = new LeastSets();
        x.axiom(0, 0);
        x.axiom(0, 23);
        due("follow(1)", x.follow(1), 1);
        due("follow(2)", x.follow(2), 1 << 23);
    }

    // of the Terms: "beginning with none": a fact does not hold because it would give itself
    static void promise07RingGivesNothing() {
        LeastSets x = new LeastSets();
        x.axiom(bits(0), 0);
        x.axiom(bits(2), 1);
        x.axiom(bits(1), 2);
        due("follow(7)", x.follow(7), 0);
    }

    // of the Terms: "if some facts hold": all of the body, not a part of it
    static void promise07PartOfABodyIsNotEnough() {
        LeastSets x = new LeastSets();
        x.axiom(0xFFFFFF & ~bits(13), 13);
        for (int fact = 0; fact < 13; fact++) {
            x.axiom(0, fact);
        }
        due("follow(-1)", x.follow(-1), 0x1FFF);
    }

    // of the Terms: "those facts that hold at last": as many rounds as there are axioms
    static void promise07LongestChainHoldsAtLast() {
        due("follow(-1)", chain().follow(-1), 0x3FFF);
        due("but axiom 0", chain().follow(~1), 0x3FFE);
        due("but axiom 13", chain().follow(0x1FFF), 0);
    }

    // ---- 8, steps

    // "1 when an axiom without a body gives it"
    static void promise08OneWithoutABody() {
        LeastSets x = twoWays();
        x.axiom(0, 0);
        due("steps(16)", x.steps(16), 1);
        due("steps(-1)", x.steps(-1), 1);
        due("steps(15)", x.steps(15), 2);
    }

    // "1 more than the latest of the facts that one's body has"
    static void promise08LatestOfTheBody() {
        LeastSets x = new LeastSets();
        x.axiom(bits(1, 2, 3), 0);
        x.axiom(0, 1);
        x.axiom(bits(1), 2);
        x.axiom(bits(1, 2), 3);
        due("steps(15)", x.steps(15), 4);
    }

    // "where that is least": over the axioms that give the goal, and those that give the body
    static void promise08LeastOverTheAxioms() {
        LeastSets x = new LeastSets();
        x.axiom(bits(3), 0);
        x.axiom(bits(2), 3);
        x.axiom(bits(1), 2);
        x.axiom(0, 1);
        due("the long way", x.steps(15), 4);
        x.axiom(bits(1), 3);
        due("a shorter body", x.steps(31), 3);
        x.axiom(bits(1), 0);
        due("a shorter end", x.steps(63), 2);
        due("the long way is still there", x.steps(15), 4);
    }

    // the most steps that there are: one for each axiom
    static void promise08FourteenSteps() {
        due("steps(-1)", chain().steps(-1), 14);
        LeastSets x = new LeastSets();
        x.goal(23);
        x.axiom(0, 10);
        for (int fact = 11; fact < 24; fact++) {
            x.axiom(bits(fact - 1), fact);
        }
        due("upward: steps(-1)", x.steps(-1), 14);
    }

    // "0 when it does not follow"
    static void promise08ZeroWhenItDoesNotFollow() {
        LeastSets x = twoWays();
        due("steps(0)", x.steps(0), 0);
        due("steps(3)", x.steps(3), 0);
        due("steps(12)", x.steps(12), 0);
        due("steps(9)", x.steps(9), 0);
        due("chain but one", chain().steps(~bits(6)), 0);
        x.goal(23);
        due("goal 23", x.steps(-1), 0);
        LeastSets ring = new LeastSets();
        ring.axiom(1, 0);
        due("ring", ring.steps(-1), 0);
    }

    // of "a set", as in promise 7: bits of no axiom do not count
    static void promise08BitsOfNoAxiomDoNotCount() {
        LeastSets x = twoWays();
        due("steps(~15)", x.steps(~15), 0);
        due("steps(least)", x.steps(LEAST), 0);
        due("steps(least and 5)", x.steps(LEAST | 5), 2);
        x.axiom(0, 0);
        x.drop(4);
        due("a dropped axiom's", x.steps(16), 0);
    }

    // ---- 9, causes

    // of the Terms: "When the goal does not follow from all, there are no causes"
    static void promise09NoneWhenItDoesNotFollow() {
        due("new: causes()", new LeastSets().causes(), 0);
        LeastSets x = twoWays();
        x.goal(3);
        due("causes()", x.causes(), 0);
        LeastSets ring = new LeastSets();
        ring.axiom(1, 0);
        due("ring: causes()", ring.causes(), 0);
    }

    // of the Terms: "but from none of those with one axiom less"
    static void promise09NoneHoldsOneTooMany() {
        LeastSets x = new LeastSets();
        x.axiom(0, 0);
        for (int i = 1; i < 14; i++) {
            x.axiom(i % 2 == 0 ? 0 : 1, i);
        }
        due("causes()", x.causes(), 1);
        due("cause(0)", x.cause(0), 1);
    }

    // many: of fourteen axioms, 162
    static void promise09ManyCauses() {
        due("causes()", layers().causes(), 162);
        due("ways: causes()", ways().causes(), 5);
    }

    // all axioms, and each of them alone, may be a cause
    static void promise09LargestAndSmallestCauses() {
        dueCauses(chain(), 0x3FFF);
        LeastSets x = new LeastSets();
        for (int i = 0; i < 14; i++) {
            x.axiom(0, 0);
        }
        due("causes()", x.causes(), 14);
        due("cause(0)", x.cause(0), 1);
        due("cause(13)", x.cause(13), 8192);
    }

    // of the Terms: "FIXED axioms may not be in a cure": causes have them as before
    static void promise09FixedOnesStayInCauses() {
        LeastSets x = twoWays();
        dueCauses(x, 5, 10);
        for (int i = 0; i < 4; i++) {
            x.fix(i, true);
        }
        dueCauses(x, 5, 10);
        x.goal(1);
        dueCauses(x, 1);
    }

    // ---- 10, cures

    // of the Terms: "the empty set is the one cure"
    static void promise10EmptySetWhenItDoesNotFollow() {
        due("new: cures()", new LeastSets().cures(), 1);
        due("new: cure(0)", new LeastSets().cure(0), 0);
        LeastSets x = layers();
        x.goal(0);
        due("cures()", x.cures(), 1);
        due("cure(0)", x.cure(0), 0);
        due("cure(1)", x.cure(1), NO);
    }

    // the same with fixed axioms: the empty set has none of them
    static void promise10EmptySetHasNoFixedAxiom() {
        LeastSets x = layers();
        for (int i = 0; i < 14; i++) {
            x.fix(i, true);
        }
        due("it follows: cures()", x.cures(), 0);
        x.goal(0);
        due("it does not: cures()", x.cures(), 1);
        due("it does not: cure(0)", x.cure(0), 0);
    }

    // of the Terms: "FIXED axioms may not be in a cure"
    static void promise10FixedOnesAreInNoCure() {
        LeastSets x = twoWays();
        dueCures(x, 3, 6, 9, 12);
        x.fix(0, true);
        dueCures(x, 6, 12);
        x.fix(3, true);
        dueCures(x, 6);
        x.fix(0, false);
        dueCures(x, 3, 6);
    }

    // of the Terms: "without the fixed ones' leave there may be none"
    static void promise10NoneWithoutTheFixedOnes() {
        LeastSets x = twoWays();
        x.fix(0, true);
        x.fix(2, true);
        dueCures(x);
        due("cures()", x.cures(), 0);
        due("causes()", x.causes(), 2);
        LeastSets one = new LeastSets();
        one.axiom(0, 0);
        one.fix(0, true);
        due("one: cures()", one.cures(), 0);
    }

    // of the Terms: "but without those with one axiom less it does"
    static void promise10NoneHoldsOneTooMany() {
        dueCures(chain(), 1, 2, 4, 8, 16, 32, 64, 128, 256, 512, 1024, 2048, 4096, 8192);
        LeastSets x = new LeastSets();
        for (int i = 0; i < 14; i++) {
            x.axiom(0, 0);
        }
        dueCures(x, 0x3FFF);
    }

    // many: of fourteen axioms, 162
    static void promise10ManyCures() {
        due("cures()", ways().cures(), 162);
        due("layers: cures()", layers().cures(), 5);
    }

    // ---- 11, cause

    // "from 0"
    static void promise11FirstAndLast() {
        LeastSets x = layers();
        due("cause(0)", x.cause(0), oneOfEach()[0]);
        due("cause(161)", x.cause(161), oneOfEach()[161]);
        due("cause(162)", x.cause(162), NO);
    }

    // "in the ORDER": "by how many axioms they have"
    static void promise11FewerAxiomsFirst() {
        LeastSets x = new LeastSets();
        x.axiom(0, 1);
        x.axiom(bits(1), 0);
        for (int i = 2; i < 13; i++) {
            x.axiom(0, i);
        }
        x.axiom(0, 0);
        dueCauses(x, 8192, 3);
        dueCauses(ways(), 0x3000, 7, 56, 448, 3584);
    }

    // "in the ORDER": "then as numbers"
    static void promise11ThenAsNumbers() {
        LeastSets x = new LeastSets();
        x.axiom(0, 1);
        x.axiom(0, 2);
        x.axiom(bits(2), 0);
        x.axiom(bits(1), 0);
        dueCauses(x, 6, 9);
        dueCauses(layers(), oneOfEach());
    }

    // "NO when there is none such"
    static void promise11NoneSuchIsNo() {
        LeastSets x = twoWays();
        int[] places = {-1, 2, 3, -2, 32, 3431, 3432, 65536, LEAST, LEAST + 1, MOST};
        for (int i : places) {
            due("cause(" + i + ")", x.cause(i), NO);
            due("new: cause(" + i + ")", new LeastSets().cause(i), NO);
        }
        due("new: cause(0)", new LeastSets().cause(0), NO);
        x.drop(0);
        due("cause(0), one left", x.cause(0), 5);
        due("cause(1), one left", x.cause(1), NO);
        x.goal(9);
        due("cause(0), none left", x.cause(0), NO);
    }

    // ---- 12, cure

    // "from 0"
    static void promise12FirstAndLast() {
        LeastSets x = ways();
        due("cure(0)", x.cure(0), oneOfEach()[0]);
        due("cure(161)", x.cure(161), oneOfEach()[161]);
        due("cure(162)", x.cure(162), NO);
    }

    // "in the ORDER": "by how many axioms they have"
    static void promise12FewerAxiomsFirst() {
        dueCures(layers(), 0x3000, 7, 56, 448, 3584);
        LeastSets x = new LeastSets();
        x.axiom(0, 1);
        x.axiom(0, 1);
        for (int i = 2; i < 13; i++) {
            x.axiom(0, i);
        }
        x.axiom(bits(1), 0);
        dueCures(x, 8192, 3);
    }

    // "in the ORDER": "then as numbers"
    static void promise12ThenAsNumbers() {
        dueCures(twoWays(), 3, 6, 9, 12);
        dueCures(ways(), oneOfEach());
    }

    // "NO when there is none such"
    static void promise12NoneSuchIsNo() {
        LeastSets x = twoWays();
        int[] places = {-1, 4, 5, -2, 32, 3431, 3432, 65536, LEAST, LEAST + 1, MOST};
        for (int i : places) {
            due("cure(" + i + ")", x.cure(i), NO);
            due("new: cure(" + i + ")", new LeastSets().cure(i), NO);
        }
        due("new: cure(1)", new LeastSets().cure(1), NO);
        x.fix(0, true);
        due("cure(2), two left", x.cure(2), NO);
        x.fix(2, true);
        due("cure(0), none left", x.cure(0), NO);
    }

    // ---- 13, lightest

    // "of equal ones the first in the ORDER"
    static void promise13OfEqualOnesTheFirst() {
        LeastSets x = twoWays();
        due("all alike", x.lightest(), 0);
        x.weight(0, 2);
        x.weight(1, 2);
        x.weight(3, 2);
        due("second and fourth alike", x.lightest(), 1);
        LeastSets apart = layers();
        for (int i = 0; i < 14; i++) {
            apart.weight(i, i < 12 ? 4 : 6);
        }
        due("two of 6, three of 4", apart.lightest(), 0);
        apart.weight(12, 7);
        due("7 and 6, three of 4", apart.lightest(), 1);
    }

    // "The cure of the least weight", not that of the fewest axioms; the last of all may be it
    static void promise13LastMayBeLightest() {
        LeastSets x = layers();
        int[] heavy = {12, 0, 3, 6};
        for (int axiom : heavy) {
            x.weight(axiom, 1000);
        }
        due("lightest()", x.lightest(), 4);
        LeastSets y = ways();
        int[] allButTheLastOfEach = {0, 1, 3, 4, 6, 7, 9, 10, 12};
        for (int axiom : allButTheLastOfEach) {
            y.weight(axiom, 2);
        }
        due("ways: lightest()", y.lightest(), 161);
    }

    // "that of all its axioms together": weights of 0 and of 1000, to 14000
    static void promise13LeastAndMostWeights() {
        LeastSets x = new LeastSets();
        for (int i = 0; i < 14; i++) {
            x.axiom(0, 0);
            x.weight(i, 1000);
        }
        due("14000", x.lightest(), 0);
        LeastSets y = twoWays();
        for (int i = 0; i < 4; i++) {
            y.weight(i, 0);
        }
        due("all 0", y.lightest(), 0);
        y.weight(0, 1);
        due("0 before 1", y.lightest(), 1);
    }

    // "its place among all": among the cures that there are, without fixed axioms
    static void promise13PlaceAmongThoseLeft() {
        LeastSets x = twoWays();
        x.weight(0, 0);
        x.weight(1, 9);
        due("none fixed", x.lightest(), 2);
        x.fix(1, true);
        due("cures 9 and 12", x.lightest(), 0);
        due("cure(0)", x.cure(0), 9);
        x.fix(0, true);
        due("cure 12", x.lightest(), 0);
        due("cure(0) now", x.cure(0), 12);
    }

    // "NO when there is none"
    static void promise13NoneIsNo() {
        LeastSets x = twoWays();
        x.fix(0, true);
        x.fix(2, true);
        due("lightest()", x.lightest(), NO);
    }

    // the empty cure weighs nothing, and is one
    static void promise13EmptyCureIsOne() {
        due("new: lightest()", new LeastSets().lightest(), 0);
        LeastSets x = twoWays();
        x.goal(9);
        due("lightest()", x.lightest(), 0);
        x.fix(0, true);
        due("lightest(), one fixed", x.lightest(), 0);
    }

    // ---- 14, times

    // "(cures = 0)" and "(1)"
    static void promise14CausesAndCuresAreToldApart() {
        LeastSets x = layers();
        due("times(0, 0)", x.times(0, 0), 54);
        due("times(13, 0)", x.times(13, 0), 81);
        due("times(0, 1)", x.times(0, 1), 1);
        due("times(13, 1)", x.times(13, 1), 1);
        LeastSets y = ways();
        due("ways: times(0, 1)", y.times(0, 1), 54);
        due("ways: times(13, 1)", y.times(13, 1), 81);
        due("ways: times(13, 0)", y.times(13, 0), 1);
    }

    // an axiom may stand in none, or in all
    static void promise14InNoneAndInAll() {
        LeastSets x = twoWays();
        x.axiom(0, 7);
        due("idle, causes", x.times(4, 0), 0);
        due("idle, cures", x.times(4, 1), 0);
        LeastSets all = chain();
        due("chain, causes", all.times(13, 0), 1);
        LeastSets same = new LeastSets();
        same.axiom(0, 0);
        same.axiom(0, 0);
        due("same, cures", same.times(0, 1), same.cures());
        x.goal(9);
        due("no cause", x.times(0, 0), 0);
        due("the empty cure", x.times(0, 1), 0);
    }

    // of the Terms: "what is told of them counts such only"
    static void promise14CountsOnlyCuresWithoutFixedOnes() {
        LeastSets x = twoWays();
        due("times(1, 1)", x.times(1, 1), 2);
        x.fix(0, true);
        due("times(0, 1), fixed", x.times(0, 1), 0);
        due("times(1, 1), another fixed", x.times(1, 1), 1);
        due("times(0, 0), fixed", x.times(0, 0), 1);
        x.fix(2, true);
        due("times(1, 1), none left", x.times(1, 1), 0);
    }

    // "BAD": no such axiom
    static void promise14NoSuchAxiomIsBad() {
        LeastSets x = twoWays();
        for (int axiom : noAxioms(4)) {
            due("times(" + axiom + ", 0)", x.times(axiom, 0), BAD);
            due("times(" + axiom + ", 1)", x.times(axiom, 1), BAD);
        }
        due("new: times(0, 0)", new LeastSets().times(0, 0), BAD);
        due("new: times(0, 1)", new LeastSets().times(0, 1), BAD);
    }

    // "BAD": cures is neither 0 nor 1
    static void promise14NeitherCausesNorCuresIsBad() {
        LeastSets x = twoWays();
        int[] kinds = {-1, 2, 3, -2, 32, 256, LEAST, LEAST + 1, MOST};
        for (int kind : kinds) {
            due("times(0, " + kind + ")", x.times(0, kind), BAD);
        }
        due("times(4, 2)", x.times(4, 2), BAD);
    }

    // "BAD" is told, and nothing is changed
    static void promise14RefusedChangesNothing() {
        LeastSets x = twoWays();
        String before = told(x);
        x.times(4, 0);
        x.times(-1, 1);
        x.times(0, 2);
        dueSame("after BAD", told(x), before);
    }

    // ---- 15, within

    // "The least cause within a set of axioms, in the ORDER"
    static void promise15LeastOfSeveral() {
        LeastSets x = ways();
        due("within(-1)", x.within(-1), 0x3000);
        due("within(0xFFF)", x.within(0xFFF), 7);
        due("within(0xFFE)", x.within(0xFFE), 56);
        due("within(0x3007)", x.within(0x3007), 0x3000);
        due("layers: within(-1)", layers().within(-1), oneOfEach()[0]);
        due("layers: but the least", layers().within(~1), bits(1, 3, 6, 9, 12));
    }

    // a cause is within itself; with one axiom less it is not
    static void promise15TheCauseItself() {
        LeastSets x = twoWays();
        due("within(10)", x.within(10), 10);
        due("within(2)", x.within(2), NO);
        due("within(8)", x.within(8), NO);
        due("chain: all", chain().within(0x3FFF), 0x3FFF);
        due("chain: but the first", chain().within(0x3FFE), NO);
        due("chain: but the last", chain().within(0x1FFF), NO);
    }

    // "NO when the goal does not follow from it"
    static void promise15NoWhenItDoesNotFollow() {
        LeastSets x = twoWays();
        due("within(0)", x.within(0), NO);
        due("within(9)", x.within(9), NO);
        x.goal(9);
        due("within(-1)", x.within(-1), NO);
        due("new: within(-1)", new LeastSets().within(-1), NO);
        due("new: within(0)", new LeastSets().within(0), NO);
    }

    // of "a set of axioms": bits of no axiom give nothing and take nothing
    static void promise15BitsOfNoAxiomDoNotCount() {
        LeastSets x = twoWays();
        due("within(~15)", x.within(~15), NO);
        due("within(least)", x.within(LEAST), NO);
        due("within(least and 10)", x.within(LEAST | 10), 10);
        due("within(~5)", x.within(~5), 10);
        due("full: within(~0x3FFF)", layers().within(~0x3FFF), NO);
    }

    // fixed axioms bear on cures alone
    static void promise15FixedOnesCount() {
        LeastSets x = twoWays();
        x.fix(0, true);
        x.fix(2, true);
        due("within(-1)", x.within(-1), 5);
    }

    // ---- 16, common

    // "NO when there is no cause"
    static void promise16NoWithoutACause() {
        due("new: common()", new LeastSets().common(), NO);
        LeastSets x = twoWays();
        x.goal(9);
        due("common()", x.common(), NO);
    }

    // no axiom in all causes: the empty set, which is not NO
    static void promise16NoneInAllIsTheEmptySet() {
        due("common()", twoWays().common(), 0);
        due("layers: common()", layers().common(), 0);
    }

    // of one cause all its axioms, all fourteen if it has them
    static void promise16AllOfTheOneCause() {
        due("chain: common()", chain().common(), 0x3FFF);
        LeastSets x = twoWays();
        x.drop(0);
        due("common()", x.common(), 5);
    }

    // "stand in all causes": not in most of them
    static void promise16NotThoseInMost() {
        LeastSets x = new LeastSets();
        x.axiom(0, 1);
        x.axiom(bits(1), 2);
        x.axiom(bits(1), 2);
        x.axiom(bits(2), 3);
        x.axiom(0, 3);
        x.axiom(bits(3), 0);
        dueCauses(x, bits(4, 5), bits(0, 1, 3, 5), bits(0, 2, 3, 5));
        due("common()", x.common(), bits(5));
    }

    // fixed axioms bear on cures alone
    static void promise16FixedOnesCount() {
        LeastSets x = chain();
        x.fix(0, true);
        due("common()", x.common(), 0x3FFF);
    }

    // ---- 17, axioms

    // "How many axioms there are": from none to fourteen and back
    static void promise17FromNoneToFourteenAndBack() {
        LeastSets x = new LeastSets();
        for (int many = 0; many < 14; many++) {
            due("axioms()", x.axioms(), many);
            x.axiom(0, many);
        }
        due("axioms(), full", x.axioms(), 14);
        x.axiom(0, 0);
        due("axioms(), refused", x.axioms(), 14);
        for (int many = 13; many >= 0; many--) {
            x.drop(many / 2);
            due("axioms(), dropped", x.axioms(), many);
        }
        x.drop(0);
        due("axioms(), none to drop", x.axioms(), 0);
    }

    // fixed ones and such as never hold are axioms, too
    static void promise17CountsEveryKind() {
        LeastSets x = new LeastSets();
        x.axiom(1, 0);
        x.axiom(1, 0);
        x.fix(0, true);
        x.weight(1, 0);
        due("axioms()", x.axioms(), 2);
    }

    // ---- 18, fact

    // "by their numbers"
    static void promise18ByTheirNumbers() {
        LeastSets x = new LeastSets();
        int[] heads = {23, 0, 11, 22, 1};
        for (int head : heads) {
            x.axiom(0, head);
        }
        int[] want = {0, 1, 11, 22, 23};
        for (int i = 0; i < 5; i++) {
            due("fact(" + i + ")", x.fact(i), want[i]);
        }
    }

    // "as many as follow": fourteen at most
    static void promise18FourteenFacts() {
        LeastSets x = chain();
        for (int i = 0; i < 14; i++) {
            due("fact(" + i + ")", x.fact(i), i);
        }
        dueThrow(x, 14);
        LeastSets high = new LeastSets();
        for (int i = 0; i < 14; i++) {
            high.axiom(i == 0 ? 0 : bits(24 - i), 23 - i);
        }
        due("high: fact(0)", high.fact(0), 10);
        due("high: fact(13)", high.fact(13), 23);
        dueThrow(high, 14);
    }

    // "throws ArrayIndexOutOfBoundsException"; "and no others": too small a number
    static void promise18TooSmallThrows() {
        LeastSets x = layers();
        int[] places = {-1, -2, -32, LEAST, LEAST + 1};
        for (int i : places) {
            dueThrow(x, i);
        }
    }

    // "throws ArrayIndexOutOfBoundsException"; "and no others": too large a number
    static void promise18TooLargeThrows() {
        LeastSets x = layers();
        due("fact(4)", x.fact(4), 5);
        int[] places = {5, 6, 13, 14, 23, 24, 31, 32, 33, 37, 256, 65536, MOST};
        for (int i : places) {
            dueThrow(x, i);
        }
    }

    // "as many as follow, and no others": none
    static void promise18NoneFollowsThrows() {
        dueThrow(new LeastSets(), 0);
        dueThrow(new LeastSets(), -1);
        LeastSets ring = new LeastSets();
        ring.axiom(1, 0);
        dueThrow(ring, 0);
    }

    // one fact by several axioms is one fact
    static void promise18FactTwiceGivenIsOne() {
        LeastSets x = new LeastSets();
        x.axiom(0, 7);
        x.axiom(0, 7);
        due("fact(0)", x.fact(0), 7);
        dueThrow(x, 1);
    }

    // "from all axioms": fixed ones too, whatever the goal, and no longer than they are there
    static void promise18FromAllAxioms() {
        LeastSets x = twoWays();
        x.fix(0, true);
        x.weight(1, 0);
        x.goal(9);
        due("fact(0)", x.fact(0), 0);
        due("fact(2)", x.fact(2), 2);
        x.drop(1);
        due("fact(1), dropped", x.fact(1), 1);
        dueThrow(x, 2);
    }

    // "throws": and nothing is changed
    static void promise18RefusedChangesNothing() {
        LeastSets x = twoWays();
        String before = told(x);
        dueThrow(x, 3);
        dueThrow(x, -1);
        dueSame("after the exception", told(x), before);
    }

    // ---- running them

    private static Map<String, Method> tests() {
        Map<String, Method> tests = new TreeMap<>();
        for (Method method : LeastSetsEdges.class.getDeclaredMethods()) {
            if (method.getName().startsWith("promise")) {
                tests.put(method.getName(), method);
            }
        }
        return tests;
    }

    private static void run(Method method) throws IllegalAccessException {
        test = method.getName();
        try {
            method.invoke(null);
        } catch (InvocationTargetException e) {
            wrong++;
            System.out.println(test + ": ended by " + e.getCause());
        }
    }

    private static void dueTestOfEachPromise(Map<String, Method> tests) {
        test = "tests";
        for (int promise = 1; promise <= PROMISES; promise++) {
            String start = String.format("promise%02d", promise);
            boolean there = tests.keySet().stream().anyMatch(name -> name.startsWith(start));
            due("a test " + start + "..", there ? 1 : 0, 1);
        }
    }

    public static void main(String[] args) throws IllegalAccessException {
        Map<String, Method> tests = tests();
        for (Method method : tests.values()) {
            run(method);
        }
        dueTestOfEachPromise(tests);
        System.out.println(tests.size() + " tests, " + asked + " answers looked at, " + wrong
            + " not as due");
        if (wrong != 0) {
            System.exit(1);
        }
    }
}
