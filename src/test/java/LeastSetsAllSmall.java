import java.util.ArrayList;
import java.util.Comparator;
import java.util.List;

/**
 * Every object of up to three axioms over the facts 0 .. 2, with each goal and each choice of fixed
 * axioms, asked all that it can be asked. What is due is found by other ways than the class goes:
 * what follows is what all closed sets of facts have; causes and cures are compared with all sets
 * inside them; cures are told a second time as the least sets that meet every cause.
 */
public final class LeastSetsAllSmall {
    private static final int NO = -2;
    private static final int FACTS = 3;
    private static final int FACT_SETS = 1 << FACTS;
    private static final int KINDS = FACT_SETS * FACTS;

    private static long asked = 0;
    private static int wrong = 0;

    private final int[] body;
    private final int[] head;
    private final int[] weight;
    private final int goal;
    private int fixed = 0;

    private LeastSetsAllSmall(int count, int table, int goal) {
        this.goal = goal;
        body = new int[count];
        head = new int[count];
        weight = new int[count];
        int rest = table;
        for (int a = 0; a < count; a++) {
            body[a] = rest % FACT_SETS;
            head[a] = rest / FACT_SETS % FACTS;
            weight[a] = (table + a * a) % 4;
            rest /= KINDS;
        }
    }

    private int sets() {
        return 1 << body.length;
    }

    private boolean closed(int set, int facts) {
        for (int a = 0; a < body.length; a++) {
            boolean used = (set >> a & 1) == 1 && (body[a] & facts) == body[a];
            if (used && (facts >> head[a] & 1) == 0) {
                return false;
            }
        }
        return true;
    }

    private int follow(int set) {
        int inAll = FACT_SETS - 1;
        for (int facts = 0; facts < FACT_SETS; facts++) {
            if (closed(set, facts)) {
                inAll &= facts;
            }
        }
        return inAll;
    }

    /** Whether a fact can be had with no more than so many axioms one above the other. */
    private boolean within(int fact, int set, int height) {
        for (int a = 0; a < body.length && height > 0; a++) {
            boolean gives = (set >> a & 1) == 1 && head[a] == fact;
            for (int f = 0; f < FACTS && gives; f++) {
                gives = (body[a] >> f & 1) == 0 || within(f, set, height - 1);
            }
            if (gives) {
                return true;
            }
        }
        return false;
    }

    private int steps(int set) {
        for (int height = 1; height <= FACTS; height++) {
            if (within(goal, set, height)) {
                return height;
            }
        }
        return 0;
    }

    private boolean gives(int set) {
        return (follow(set) >> goal & 1) == 1;
    }

    private static List<Integer> leastInOrder(boolean[] is) {
        List<Integer> least = new ArrayList<>();
        for (int set = 0; set < is.length; set++) {
            boolean none = is[set];
            for (int inside = 0; inside < set && none; inside++) {
                none = (inside & ~set) != 0 || !is[inside];
            }
            if (none) {
                least.add(set);
            }
        }
        least.sort(Comparator.<Integer>comparingInt(Integer::bitCount).thenComparingInt(s -> s));
        return least;
    }

    private List<Integer> causes() {
        boolean[] is = new boolean[sets()];
        for (int set = 0; set < is.length; set++) {
            is[set] = gives(set);
        }
        return leastInOrder(is);
    }

    private List<Integer> cures() {
        boolean[] is = new boolean[sets()];
        for (int set = 0; set < is.length; set++) {
            is[set] = (set & fixed) == 0 && !gives(is.length - 1 - set);
        }
        return leastInOrder(is);
    }

    private List<Integer> leastThatMeet(List<Integer> causes) {
        boolean[] is = new boolean[sets()];
        for (int set = 0; set < is.length; set++) {
            int free = set & ~fixed;
            is[set] = free == set && causes.stream().allMatch(cause -> (cause & free) != 0);
        }
        return leastInOrder(is);
    }

    private int weightOf(int set) {
        int sum = 0;
        for (int a = 0; a < weight.length; a++) {
            sum += (set >> a & 1) * weight[a];
        }
        return sum;
    }

    private int lightest(List<Integer> cures) {
        return cures.isEmpty() ? NO : cures.indexOf(
            cures.stream().min(Comparator.comparingInt(this::weightOf)).get());
    }

    private void due(String call, int got, int want) {
        asked++;
        if (got != want && ++wrong <= 20) {
            System.out.println(this + ": " + call + " answered " + got + ", due is " + want);
        }
    }

    @Override
    public String toString() {
        StringBuilder text = new StringBuilder("goal " + goal + ", fixed " + fixed + ", axioms");
        for (int a = 0; a < body.length; a++) {
            text.append(" (").append(body[a]).append(", ").append(head[a]).append(')');
        }
        return text.toString();
    }

    private LeastSets made() {
        LeastSets x = new LeastSets();
        for (int a = 0; a < body.length; a++) {
            due("axiom", x.axiom(body[a], head[a]), a);
            due("weight", x.weight(a, weight[a]), 1);
        }
        due("goal", x.goal(goal), 0);
        return x;
    }

    private void askOfSets(LeastSets x, List<Integer> causes) {
        for (int set = 0; set < sets(); set++) {
            int all = set;
            due("follow " + set, x.follow(set), follow(set));
            due("steps " + set, x.steps(set), steps(set));
            due("within " + set, x.within(set),
                causes.stream().filter(cause -> (cause & ~all) == 0).findFirst().orElse(NO));
        }
        due("common", x.common(), causes.stream().reduce((p, q) -> p & q).orElse(NO));
    }

    private void askOfFacts(LeastSets x) {
        int place = 0;
        for (int fact = 0; fact < FACTS; fact++) {
            if ((follow(sets() - 1) >> fact & 1) == 1) {
                due("fact " + place, x.fact(place), fact);
                place++;
            }
        }
        boolean threw = false;
        try {
            x.fact(place);
        } catch (ArrayIndexOutOfBoundsException e) {
            threw = true;
        }
        due("fact " + place + " throws", threw ? 1 : 0, 1);
    }

    private void askOfLists(LeastSets x, List<Integer> causes, List<Integer> cures) {
        due("causes", x.causes(), causes.size());
        for (int i = 0; i <= causes.size(); i++) {
            due("cause " + i, x.cause(i), i < causes.size() ? causes.get(i) : NO);
        }
        due("cures", x.cures(), cures.size());
        for (int i = 0; i <= cures.size(); i++) {
            due("cure " + i, x.cure(i), i < cures.size() ? cures.get(i) : NO);
        }
        due("lightest", x.lightest(), lightest(cures));
        for (int a = 0; a < body.length; a++) {
            int bit = 1 << a;
            due("times " + a + " in causes", x.times(a, 0),
                (int) causes.stream().filter(set -> (set & bit) != 0).count());
            due("times " + a + " in cures", x.times(a, 1),
                (int) cures.stream().filter(set -> (set & bit) != 0).count());
        }
    }

    private void ask() {
        LeastSets x = made();
        List<Integer> causes = causes();
        askOfSets(x, causes);
        askOfFacts(x);
        for (int next = 0; next < sets(); next++) {
            for (int a = 0; a < body.length; a++) {
                due("fix " + a, x.fix(a, (next >> a & 1) == 1), fixed >> a & 1);
            }
            fixed = next;
            List<Integer> cures = cures();
            due("cures and causes meet", cures.equals(leastThatMeet(causes)) ? 1 : 0, 1);
            askOfLists(x, causes, cures);
        }
    }

    public static void main(String[] args) {
        int tables = 1;
        for (int count = 0; count <= 3; count++) {
            for (int table = 0; table < tables; table++) {
                for (int goal = 0; goal < FACTS; goal++) {
                    new LeastSetsAllSmall(count, table, goal).ask();
                }
            }
            tables *= KINDS;
        }
        System.out.println(asked + " answers looked at, " + wrong + " not as due");
        if (wrong != 0) {
            System.exit(1);
        }
    }
}
