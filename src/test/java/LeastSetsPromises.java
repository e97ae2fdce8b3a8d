/** For each promise of the document: ordinary inputs, its edges, and wrong inputs. */
public final class LeastSetsPromises {
    private static final int BAD = -1;
    private static final int NO = -2;
    private static final int FULL = -3;
    private static final int LEAST = Integer.MIN_VALUE;
    private static final int MOST = Integer.MAX_VALUE;

    private static int asked = 0;
    private static int wrong = 0;

    private static void due(String call, int got, int want) {
        asked++;
        if (got != want) {
            wrong++;
            System.out.println(call + " answered " + got + ", due is " + want);
        }
    }

    private static void dueFacts(String when, LeastSets x, int... want) {
        for (int i = 0; i < want.length; i++) {
            due(when + ": fact(" + i + ")", x.fact(i), want[i]);
        }
        dueThrow(when, x, want.length);
        dueThrow(when, x, -1);
    }

    private static void dueThrow(String when, LeastSets x, int i) {
        int threw = 0;
        try {
            x.fact(i);
        } catch (ArrayIndexOutOfBoundsException e) {
            threw = e.getClass() == ArrayIndexOutOfBoundsException.class ? 1 : 2;
        }
        due(when + ": fact(" + i + ") throws", threw, 1);
    }

    private static void dueCauses(String when, LeastSets x, int... want) {
        due(when + ": causes()", x.causes(), want.length);
        for (int i = 0; i < want.length; i++) {
            due(when + ": cause(" + i + ")", x.cause(i), want[i]);
        }
        due(when + ": cause(behind the last)", x.cause(want.length), NO);
    }

    private static void dueCures(String when, LeastSets x, int... want) {
        due(when + ": cures()", x.cures(), want.length);
        for (int i = 0; i < want.length; i++) {
            due(when + ": cure(" + i + ")", x.cure(i), want[i]);
        }
        due(when + ": cure(behind the last)", x.cure(want.length), NO);
    }

    private static int bits(int... places) {
        int set = 0;
        for (int place : places) {
            set |= 1 << place;
        }
        return set;
    }

    /** Goal 3 by 1 (axioms 0, 2), by 2 (1, 3), by both (0, 1, 4), or at once (5); 6 is idle. */
    private static LeastSets fourWays() {
        LeastSets x = new LeastSets();
        x.goal(3);
        x.axiom(0, 1);
        x.axiom(0, 2);
        x.axiom(bits(1), 3);
        x.axiom(bits(2), 3);
        x.axiom(bits(1, 2), 3);
        x.axiom(0, 3);
        x.axiom(bits(3), 4);
        return x;
    }

    /** Seven pairs, axioms i and 7 + i, each of which gives the goal 0. */
    private static LeastSets sevenPairs() {
        LeastSets x = new LeastSets();
        for (int i = 1; i <= 7; i++) {
            x.axiom(0, i);
        }
        for (int i = 1; i <= 7; i++) {
            x.axiom(bits(i), 0);
        }
        return x;
    }

    /** Goal 0 by fact 1, that by fact 2, and so on to fact 13: each needs one that is behind it. */
    private static LeastSets backwardChain() {
        LeastSets x = new LeastSets();
        for (int i = 0; i < 13; i++) {
            x.axiom(bits(i + 1), i);
        }
        x.axiom(0, 13);
        return x;
    }

    private static void promise1NewObject() {
        LeastSets x = new LeastSets();
        due("1 axioms()", x.axioms(), 0);
        dueCauses("1", x);
        dueCures("1", x, 0);
        due("1 lightest()", x.lightest(), 0);
        due("1 follow(-1)", x.follow(-1), 0);
        due("1 goal(7), that was", x.goal(7), 0);
        LeastSets other = new LeastSets();
        other.axiom(0, 0);
        due("1 objects do not share axioms", x.axioms(), 0);
    }

    private static void promise2Axiom() {
        LeastSets x = new LeastSets();
        due("2 axiom(bit 24)", x.axiom(1 << 24, 0), BAD);
        due("2 axiom(bit 31)", x.axiom(LEAST, 0), BAD);
        due("2 axiom(-1)", x.axiom(-1, 0), BAD);
        due("2 axiom(head 24)", x.axiom(0, 24), BAD);
        due("2 axiom(head -1)", x.axiom(0, -1), BAD);
        due("2 axiom(head most)", x.axiom(0, MOST), BAD);
        due("2 axiom(head least)", x.axiom(0, LEAST), BAD);
        due("2 BAD adds none", x.axioms(), 0);
        due("2 all facts as body", x.axiom((1 << 24) - 1, 23), 0);
        for (int i = 1; i < 14; i++) {
            due("2 number", x.axiom(0, i), i);
        }
        due("2 the fifteenth", x.axiom(0, 0), FULL);
        due("2 BAD before FULL, body", x.axiom(1 << 24, 0), BAD);
        due("2 BAD before FULL, head", x.axiom(0, 24), BAD);
        due("2 FULL adds none", x.axioms(), 14);
        x.drop(3);
        due("2 room again", x.axiom(0, 0), 13);
        due("2 the same axiom again is another", twice().axioms(), 2);
        newOnesAreNotFixed();
    }

    private static LeastSets twice() {
        LeastSets x = new LeastSets();
        x.axiom(0, 0);
        due("2 second of the same", x.axiom(0, 0), 1);
        dueCauses("2 same twice", x, 1, 2);
        dueCures("2 same twice", x, 3);
        return x;
    }

    private static void newOnesAreNotFixed() {
        LeastSets x = new LeastSets();
        x.axiom(0, 0);
        x.fix(0, true);
        x.weight(0, 77);
        x.drop(0);
        x.axiom(0, 0);
        due("2 not fixed in a used place", x.fix(0, false), 0);
        due("2 weight 1 in a used place", x.weight(0, 5), 1);
    }

    private static void promise3Drop() {
        LeastSets x = fourWays();
        int[] noAxioms = {-1, 7, 14, 32, LEAST, MOST};
        for (int axiom : noAxioms) {
            due("3 drop(" + axiom + ")", x.drop(axiom), BAD);
        }
        due("3 BAD drops none", x.axioms(), 7);
        for (int i = 0; i < 7; i++) {
            x.weight(i, 100 + i);
        }
        x.fix(4, true);
        due("3 drop(2)", x.drop(2), 6);
        due("3 one before it", x.weight(1, 1), 101);
        due("3 one behind it", x.weight(2, 1), 103);
        due("3 fixed goes along", x.fix(3, false), 1);
        due("3 fixed leaves its place", x.fix(4, false), 0);
        due("3 the last", x.weight(5, 1), 106);
        due("3 number too high now", x.weight(6, 1), BAD);
        dueCauses("3", x, bits(4), bits(1, 2), bits(0, 1, 3));
        due("3 drop(last)", x.drop(5), 5);
        for (int left = 4; left >= 0; left--) {
            due("3 drop(0)", x.drop(0), left);
        }
        due("3 drop of none", x.drop(0), BAD);
        due("3 goal stays", x.goal(0), 3);
    }

    private static void promise4Fix() {
        LeastSets x = fourWays();
        int[] noAxioms = {-1, 7, 14, LEAST, MOST};
        for (int axiom : noAxioms) {
            due("4 fix(" + axiom + ")", x.fix(axiom, true), BAD);
        }
        dueCures("4 none fixed", x, 35, 38, 41, 60);
        due("4 fix(0)", x.fix(0, true), 0);
        due("4 fix(0) again", x.fix(0, true), 1);
        dueCures("4 axiom 0 fixed", x, 38, 60);
        dueCauses("4 causes stay", x, 32, 5, 10, 19);
        due("4 free(0)", x.fix(0, false), 1);
        due("4 free(0) again", x.fix(0, false), 0);
        dueCures("4 free again", x, 35, 38, 41, 60);
        x.fix(5, true);
        dueCures("4 no cure without it", x);
        due("4 lightest()", x.lightest(), NO);
    }

    private static void promise5Weight() {
        LeastSets x = fourWays();
        due("5 weight(-1)", x.weight(-1, 3), BAD);
        due("5 weight(7)", x.weight(7, 3), BAD);
        due("5 weight(most)", x.weight(MOST, 3), BAD);
        due("5 weight -1", x.weight(0, -1), BAD);
        due("5 weight 1001", x.weight(0, 1001), BAD);
        due("5 weight least", x.weight(0, LEAST), BAD);
        due("5 at first", x.weight(0, 1000), 1);
        due("5 1000", x.weight(0, 0), 1000);
        due("5 0", x.weight(0, 12), 0);
        due("5 another's", x.weight(6, 12), 1);
    }

    private static void promise6Goal() {
        LeastSets x = fourWays();
        int[] noFacts = {-1, 24, 32, LEAST, MOST};
        for (int fact : noFacts) {
            due("6 goal(" + fact + ")", x.goal(fact), BAD);
        }
        due("6 goal(4)", x.goal(4), 3);
        dueCauses("6 goal 4", x, bits(5, 6), bits(0, 2, 6), bits(1, 3, 6), bits(0, 1, 4, 6));
        dueCures("6 goal 4", x, 64, 35, 38, 41, 60);
        due("6 goal(23)", x.goal(23), 4);
        dueCauses("6 goal 23", x);
        dueCures("6 goal 23", x, 0);
        due("6 goal(23) again", x.goal(23), 23);
        due("6 goal(1)", x.goal(1), 23);
        dueCauses("6 goal 1", x, 1);
        dueCures("6 goal 1", x, 1);
        x.axiom(0, 23);
        x.goal(23);
        dueCauses("6 the last fact", x, 128);
    }

    private static void promise7Follow() {
        LeastSets x = fourWays();
        due("7 follow(0)", x.follow(0), 0);
        due("7 follow(5)", x.follow(5), bits(1, 3));
        due("7 follow(-1)", x.follow(-1), bits(1, 2, 3, 4));
        due("7 follow(most)", x.follow(MOST), bits(1, 2, 3, 4));
        due("7 bits of no axiom", x.follow(~127), 0);
        due("7 bit 31", x.follow(LEAST), 0);
        due("7 body does not hold", x.follow(bits(2, 3, 4, 6)), 0);
        due("7 half a body", x.follow(bits(0, 4)), bits(1));
        LeastSets back = new LeastSets();
        back.axiom(bits(23), 0);
        back.axiom(bits(5), 23);
        back.axiom(bits(0), 5);
        due("7 a ring holds nothing", back.follow(7), 0);
        back.axiom(0, 5);
        due("7 against the numbers", back.follow(11), bits(0, 5, 23));
        due("7 fourteen steps", backwardChain().follow(-1), (1 << 14) - 1);
        due("7 fourteen steps but one", backwardChain().follow(~(1 << 5)), 0x3FC0);
    }

    private static void promise8Steps() {
        LeastSets x = fourWays();
        due("8 at once", x.steps(-1), 1);
        due("8 the shorter way", x.steps(31), 2);
        due("8 not at all", x.steps(bits(0, 1)), 0);
        due("8 of nothing", x.steps(0), 0);
        due("8 bits of no axiom", x.steps(~127), 0);
        LeastSets chain = new LeastSets();
        chain.axiom(0, 13);
        for (int fact = 13; fact > 0; fact--) {
            chain.axiom(bits(fact), fact - 1);
        }
        due("8 fourteen", chain.steps(-1), 14);
        due("8 fourteen, but one", chain.steps(~64), 0);
        LeastSets late = new LeastSets();
        late.axiom(0, 1);
        late.axiom(bits(1), 2);
        late.axiom(bits(2), 3);
        late.axiom(bits(1, 3), 0);
        due("8 latest of the body", late.steps(-1), 4);
        late.axiom(bits(1, 2), 0);
        due("8 least of the axioms", late.steps(-1), 3);
        due("8 no fact of the set", late.steps(bits(3, 4)), 0);
        late.goal(2);
        due("8 another goal", late.steps(-1), 2);
    }

    private static void promises9And11Causes() {
        dueCauses("9 four ways", fourWays(), 32, 5, 10, 19);
        dueCauses("9 pairs", sevenPairs(), 129, 258, 516, 1032, 2064, 4128, 8256);
        LeastSets x = fourWays();
        int[] noPlaces = {-1, 4, 5, 4000, LEAST, MOST};
        for (int place : noPlaces) {
            due("11 cause(" + place + ")", x.cause(place), NO);
        }
        x.axiom(0, 3);
        dueCauses("9 axiom more", x, 32, 128, 5, 10, 19);
        x.drop(5);
        dueCauses("9 axiom less", x, 64, 5, 10, 19);
        x.goal(20);
        dueCauses("9 no cause", x);
        LeastSets own = new LeastSets();
        own.axiom(bits(0), 0);
        dueCauses("9 a fact does not give itself", own);
        dueCauses("9 product", threeByThree(), productOfThrees());
        dueCauses("9 chain", backwardChain(), (1 << 14) - 1);
    }

    /** Facts 1 .. 4 by three axioms each (i, i + 1, i + 2), and the goal by all four (12). */
    private static LeastSets threeByThree() {
        LeastSets x = new LeastSets();
        for (int i = 0; i < 12; i++) {
            x.axiom(0, 1 + i / 3);
        }
        x.axiom(bits(1, 2, 3, 4), 0);
        return x;
    }

    private static int[] productOfThrees() {
        int[] sets = new int[81];
        for (int i = 0; i < 81; i++) {
            sets[i] = bits(i % 3, 3 + i / 3 % 3, 6 + i / 9 % 3, 9 + i / 27, 12);
        }
        java.util.Arrays.sort(sets);
        return sets;
    }

    private static void promises10And12Cures() {
        dueCures("10 four ways", fourWays(), 35, 38, 41, 60);
        dueCures("10 three by three", threeByThree(), 4096, 7, 56, 448, 3584);
        dueCures("10 chain", backwardChain(), 1, 2, 4, 8, 16, 32, 64, 128, 256, 512, 1024, 2048,
            4096, 8192);
        LeastSets x = sevenPairs();
        due("10 pairs", x.cures(), 128);
        due("12 first", x.cure(0), 127);
        due("12 second", x.cure(1), 254);
        due("12 last", x.cure(127), 16256);
        int[] noPlaces = {-1, 128, 4000, LEAST, MOST};
        for (int place : noPlaces) {
            due("12 cure(" + place + ")", x.cure(place), NO);
        }
        for (int i = 1; i < 128; i++) {
            due("12 as numbers", x.cure(i) > x.cure(i - 1) ? 1 : 0, 1);
        }
        x.fix(0, true);
        due("10 one fixed", x.cures(), 64);
        x.fix(7, true);
        dueCures("10 a pair fixed", x);
        x.goal(20);
        dueCures("10 the goal does not follow", x, 0);
        for (int i = 0; i < 14; i++) {
            x.fix(i, true);
        }
        dueCures("10 all fixed, it does not follow", x, 0);
    }

    private static void promise13Lightest() {
        LeastSets x = fourWays();
        due("13 equal weights", x.lightest(), 0);
        x.weight(0, 10);
        due("13 second", x.lightest(), 1);
        x.weight(2, 10);
        due("13 last though most axioms", fourthIsLightest(), 3);
        x.weight(0, 0);
        due("13 weight 0", x.lightest(), 0);
        x.weight(1, 1);
        x.weight(3, 1);
        due("13 of equal ones the first", x.lightest(), 0);
        x.fix(1, true);
        due("13 place among those left", x.lightest(), 0);
        due("13 that one", x.cure(0), 41);
        x.fix(5, true);
        due("13 none", x.lightest(), NO);
        x.goal(22);
        due("13 the empty one", x.lightest(), 0);
    }

    private static int fourthIsLightest() {
        LeastSets x = fourWays();
        x.weight(0, 1000);
        x.weight(1, 1000);
        return x.lightest();
    }

    private static void promise14Times() {
        LeastSets x = fourWays();
        int[] inCauses = {2, 2, 1, 1, 1, 1, 0};
        int[] inCures = {2, 2, 2, 2, 1, 4, 0};
        for (int i = 0; i < 7; i++) {
            due("14 times(" + i + ", 0)", x.times(i, 0), inCauses[i]);
            due("14 times(" + i + ", 1)", x.times(i, 1), inCures[i]);
        }
        int[] noKinds = {-1, 2, LEAST, MOST};
        for (int kind : noKinds) {
            due("14 times(0, " + kind + ")", x.times(0, kind), BAD);
        }
        int[] noAxioms = {-1, 7, 14, 32, LEAST, MOST};
        for (int axiom : noAxioms) {
            due("14 times(" + axiom + ", 0)", x.times(axiom, 0), BAD);
            due("14 times(" + axiom + ", 1)", x.times(axiom, 1), BAD);
        }
        x.fix(0, true);
        due("14 a fixed one in causes", x.times(0, 0), 2);
        due("14 a fixed one in cures", x.times(0, 1), 0);
        due("14 another, one fixed", x.times(1, 1), 1);
    }

    private static void promise15Within() {
        LeastSets x = fourWays();
        due("15 all", x.within(-1), 32);
        due("15 all but one", x.within(31), 5);
        due("15 the same", x.within(10), 10);
        due("15 the larger one", x.within(bits(0, 1, 4, 6)), 19);
        due("15 too few", x.within(9), NO);
        due("15 nothing", x.within(0), NO);
        due("15 bits of no axiom", x.within(~127), NO);
        due("15 bits of no axiom, too", x.within(LEAST | 10), 10);
        x.fix(5, true);
        due("15 fixed ones count", x.within(-1), 32);
        x.goal(22);
        due("15 it does not follow", x.within(-1), NO);
    }

    private static void promise16Common() {
        LeastSets x = fourWays();
        due("16 none common", x.common(), 0);
        x.goal(4);
        due("16 one", x.common(), 64);
        x.goal(2);
        due("16 of one cause", x.common(), 2);
        x.goal(9);
        due("16 no cause", x.common(), NO);
        LeastSets both = new LeastSets();
        both.axiom(0, 1);
        both.axiom(bits(1), 2);
        both.axiom(bits(1), 2);
        both.axiom(bits(2), 0);
        due("16 two", both.common(), bits(0, 3));
    }

    private static void promise17Axioms() {
        LeastSets x = new LeastSets();
        for (int i = 0; i < 14; i++) {
            due("17 axioms()", x.axioms(), i);
            x.axiom(0, i);
        }
        x.axiom(0, 0);
        due("17 no more than", x.axioms(), 14);
        x.drop(4);
        due("17 less", x.axioms(), 13);
    }

    private static void promise18Fact() {
        dueFacts("18 none", new LeastSets());
        LeastSets x = fourWays();
        dueFacts("18 four", x, 1, 2, 3, 4);
        dueThrow("18 four", x, LEAST);
        dueThrow("18 four", x, MOST);
        dueThrow("18 four", x, 24);
        x.axiom(0, 23);
        x.axiom(bits(22), 0);
        dueFacts("18 last fact", x, 1, 2, 3, 4, 23);
        x.axiom(bits(23), 22);
        dueFacts("18 all by one", x, 0, 1, 2, 3, 4, 22, 23);
        x.fix(7, true);
        x.goal(8);
        dueFacts("18 fixed and goal do not count", x, 0, 1, 2, 3, 4, 22, 23);
        x.drop(7);
        dueFacts("18 less", x, 1, 2, 3, 4);
    }

    private static void wrongCallsChangeNothing() {
        LeastSets x = fourWays();
        x.axiom(-1, 3);
        x.axiom(0, 24);
        x.drop(7);
        x.fix(-1, true);
        x.fix(7, true);
        x.weight(5, 1001);
        x.goal(24);
        dueThrow("wrong", x, 9);
        dueCauses("after wrong calls", x, 32, 5, 10, 19);
        dueCures("after wrong calls", x, 35, 38, 41, 60);
        due("after wrong calls, weight", x.weight(5, 1), 1);
        due("after wrong calls, goal", x.goal(3), 3);
    }

    public static void main(String[] args) {
        promise1NewObject();
        promise2Axiom();
        promise3Drop();
        promise4Fix();
        promise5Weight();
        promise6Goal();
        promise7Follow();
        promise8Steps();
        promises9And11Causes();
        promises10And12Cures();
        promise13Lightest();
        promise14Times();
        promise15Within();
        promise16Common();
        promise17Axioms();
        promise18Fact();
        wrongCallsChangeNothing();
        System.out.println(asked + " answers looked at, " + wrong + " not as due");
        if (wrong != 0) {
            System.exit(1);
        }
    }
}
