import java.util.ArrayList;
import java.util.List;

/**
 * Long runs of calls, the same in each run of the test, on the class and on a model that keeps to
 * the document's words: a set at a time, with nothing remembered between calls but one table.
 */
public final class LeastSetsAgainstPlain {
    private static final int CALLS = 512;

    private static long seed = 20261115L;
    private static long asked = 0;
    private static int wrong = 0;

    private static int upTo(int bound) {
        seed = seed * 6364136223846793005L + 1442695040888963407L;
        return (int) Math.floorMod(seed >>> 33, (long) bound);
    }

    private record Axiom(int body, int head, boolean[] fixed, int[] weight) {
    }

    private static final class Plain {
        final List<Axiom> all = new ArrayList<>();
        int goal = 0;
        private boolean[] table = null;

        int axiom(int body, int head) {
            if ((body & ~0xFFFFFF) != 0 || head < 0 || head > 23) {
                return -1;
            }
            if (all.size() == 14) {
                return -3;
            }
            all.add(new Axiom(body, head, new boolean[] {false}, new int[] {1}));
            table = null;
            return all.size() - 1;
        }

        boolean none(int axiom) {
            return axiom < 0 || axiom >= all.size();
        }

        int drop(int axiom) {
            if (none(axiom)) {
                return -1;
            }
            all.remove(axiom);
            table = null;
            return all.size();
        }

        int fix(int axiom, boolean fixed) {
            if (none(axiom)) {
                return -1;
            }
            boolean was = all.get(axiom).fixed()[0];
            all.get(axiom).fixed()[0] = fixed;
            return was ? 1 : 0;
        }

        int weight(int axiom, int weight) {
            if (none(axiom) || weight < 0 || weight > 1000) {
                return -1;
            }
            int was = all.get(axiom).weight()[0];
            all.get(axiom).weight()[0] = weight;
            return was;
        }

        int goal(int fact) {
            if (fact < 0 || fact > 23) {
                return -1;
            }
            int was = goal;
            goal = fact;
            table = null;
            return was;
        }

        int follow(int set) {
            int facts = 0;
            boolean more = true;
            while (more) {
                more = false;
                for (int a = 0; a < all.size(); a++) {
                    Axiom axiom = all.get(a);
                    boolean holds = (axiom.body() & facts) == axiom.body();
                    if ((set >> a & 1) == 1 && holds && (facts >> axiom.head() & 1) == 0) {
                        facts |= 1 << axiom.head();
                        more = true;
                    }
                }
            }
            return facts;
        }

        /** Shortest ways, fact by fact, until none gets shorter. */
        int steps(int set) {
            int[] step = new int[24];
            boolean more = true;
            while (more) {
                more = false;
                for (int a = 0; a < all.size(); a++) {
                    int by = (set >> a & 1) == 1 ? stepBy(all.get(a), step) : 0;
                    int head = all.get(a).head();
                    if (by != 0 && (step[head] == 0 || by < step[head])) {
                        step[head] = by;
                        more = true;
                    }
                }
            }
            return step[goal];
        }

        private int stepBy(Axiom axiom, int[] step) {
            int latest = 0;
            for (int fact = 0; fact < 24; fact++) {
                if ((axiom.body() >> fact & 1) == 1) {
                    if (step[fact] == 0) {
                        return 0;
                    }
                    latest = Math.max(latest, step[fact]);
                }
            }
            return latest + 1;
        }

        private boolean gives(int set) {
            if (table == null) {
                table = new boolean[1 << all.size()];
                for (int s = 0; s < table.length; s++) {
                    table[s] = (follow(s) >> goal & 1) == 1;
                }
            }
            return table[set];
        }

        List<Integer> causes() {
            List<Integer> sets = new ArrayList<>();
            for (int s = 0; s < 1 << all.size(); s++) {
                boolean is = gives(s);
                for (int a = 0; a < all.size(); a++) {
                    is = is && ((s >> a & 1) == 0 || !gives(s - (1 << a)));
                }
                if (is) {
                    sets.add(s);
                }
            }
            return ordered(sets);
        }

        List<Integer> cures() {
            List<Integer> sets = new ArrayList<>();
            int full = (1 << all.size()) - 1;
            for (int s = 0; s <= full; s++) {
                boolean is = !gives(full - s);
                for (int a = 0; a < all.size(); a++) {
                    boolean in = (s >> a & 1) == 1;
                    is = is && (!in || !all.get(a).fixed()[0] && gives(full - s + (1 << a)));
                }
                if (is) {
                    sets.add(s);
                }
            }
            return ordered(sets);
        }

        private static List<Integer> ordered(List<Integer> sets) {
            sets.sort((p, q) -> Integer.bitCount(p) != Integer.bitCount(q)
                ? Integer.bitCount(p) - Integer.bitCount(q) : p - q);
            return sets;
        }

        int lightest() {
            List<Integer> sets = cures();
            int best = -2;
            long least = Long.MAX_VALUE;
            for (int i = 0; i < sets.size(); i++) {
                long sum = 0;
                for (int a = 0; a < all.size(); a++) {
                    sum += (sets.get(i) >> a & 1) * all.get(a).weight()[0];
                }
                if (sum < least) {
                    least = sum;
                    best = i;
                }
            }
            return best;
        }

        int times(int axiom, int cures) {
            if (none(axiom) || cures != 0 && cures != 1) {
                return -1;
            }
            int many = 0;
            for (int set : cures == 0 ? causes() : cures()) {
                many += set >> axiom & 1;
            }
            return many;
        }

        int within(int set) {
            for (int cause : causes()) {
                if ((cause & set) == cause) {
                    return cause;
                }
            }
            return -2;
        }

        int common() {
            int shared = -1;
            for (int cause : causes()) {
                shared &= cause;
            }
            return shared == -1 ? -2 : shared;
        }

        int fact(int i) {
            int left = i;
            int facts = follow(-1);
            for (int fact = 0; fact < 24; fact++) {
                if ((facts >> fact & 1) == 1 && left-- == 0) {
                    return fact;
                }
            }
            return Integer.MIN_VALUE;
        }
    }

    private static int at(List<Integer> sets, int i) {
        return i >= 0 && i < sets.size() ? sets.get(i) : -2;
    }

    private static int factOf(LeastSets x, int i) {
        try {
            return x.fact(i);
        } catch (ArrayIndexOutOfBoundsException e) {
            return Integer.MIN_VALUE;
        }
    }

    private static void due(String call, int got, int want) {
        asked++;
        if (got != want) {
            wrong++;
            System.out.println(call + " answered " + got + ", due is " + want);
        }
    }

    /** One of a few facts, so that ways meet; now and then any number. */
    private static int someFact(int facts) {
        return upTo(40) == 0 ? upTo(60) - 20 : upTo(facts) * (23 / facts);
    }

    private static int someBody(int facts) {
        if (upTo(60) == 0) {
            return 1 << upTo(32);
        }
        int body = 0;
        int size = Math.max(0, upTo(5) - 1);
        for (int i = 0; i < size; i++) {
            body |= 1 << upTo(facts) * (23 / facts);
        }
        return body;
    }

    private static int someSet() {
        return switch (upTo(4)) {
            case 0 -> upTo(1 << 14);
            case 1 -> -1 & ~(1 << upTo(14));
            case 2 -> -1 & ~(1 << upTo(14)) & ~(1 << upTo(14)) & ~(1 << upTo(14));
            default -> (int) (seed >> 20);
        };
    }

    private static void change(LeastSets x, Plain y, int most, int facts) {
        int which = upTo(12);
        int axiom = upTo(30) == 0 ? upTo(64) - 32 : upTo(y.all.size() + 1);
        if (which < 5 && (y.all.size() < most || upTo(10) == 0)) {
            int body = someBody(facts);
            int head = someFact(facts);
            due("axiom", x.axiom(body, head), y.axiom(body, head));
        } else if (which < 7 && y.all.size() > most / 2) {
            due("drop", x.drop(axiom), y.drop(axiom));
        } else if (which < 9) {
            boolean fixed = upTo(3) == 0;
            due("fix", x.fix(axiom, fixed), y.fix(axiom, fixed));
        } else if (which < 11) {
            int weight = upTo(3) == 0 ? upTo(1040) - 20 : upTo(4);
            due("weight", x.weight(axiom, weight), y.weight(axiom, weight));
        } else {
            int fact = someFact(facts);
            due("goal", x.goal(fact), y.goal(fact));
        }
    }

    private static void ask(LeastSets x, Plain y) {
        int i = upTo(upTo(4) == 0 ? 64 : 6) - 1;
        int axiom = upTo(y.all.size() + 2) - 1;
        int set = someSet();
        switch (upTo(13)) {
            case 0 -> due("follow", x.follow(set), y.follow(set));
            case 1 -> due("steps", x.steps(set), y.steps(set));
            case 2 -> due("causes", x.causes(), y.causes().size());
            case 3 -> due("cures", x.cures(), y.cures().size());
            case 4 -> due("cause", x.cause(i), at(y.causes(), i));
            case 5 -> due("cure", x.cure(i), at(y.cures(), i));
            case 6 -> due("lightest", x.lightest(), y.lightest());
            case 7 -> due("times 0", x.times(axiom, 0), y.times(axiom, 0));
            case 8 -> due("times 1", x.times(axiom, 1), y.times(axiom, 1));
            case 9 -> due("within", x.within(set), y.within(set));
            case 10 -> due("common", x.common(), y.common());
            case 11 -> due("axioms", x.axioms(), y.all.size());
            default -> due("fact", factOf(x, i), y.fact(i));
        }
    }

    private static void oneRun(int most, int facts) {
        LeastSets x = new LeastSets();
        Plain y = new Plain();
        for (int a = 0; a < most; a++) {
            int body = someBody(facts);
            int head = someFact(facts);
            due("axiom", x.axiom(body, head), y.axiom(body, head));
        }
        for (int call = most; call < CALLS; call++) {
            if (upTo(5) == 0) {
                change(x, y, most, facts);
            } else {
                ask(x, y);
            }
        }
    }

    public static void main(String[] args) {
        for (int run = 0; run < 300; run++) {
            oneRun(1 + run % 10, 2 + run % 7);
        }
        for (int run = 0; run < 40; run++) {
            oneRun(11 + run % 4, 3 + run % 8);
        }
        System.out.println(asked + " answers looked at, " + wrong + " not as due");
        if (wrong != 0) {
            System.exit(1);
        }
    }
}
