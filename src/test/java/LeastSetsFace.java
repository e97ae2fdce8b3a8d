import java.lang.reflect.Constructor;
import java.lang.reflect.Field;
import java.lang.reflect.Method;
import java.lang.reflect.Modifier;
import java.util.Set;
import java.util.TreeSet;

/** The public face: what the document writes there, and nothing else that others can see. */
public final class LeastSetsFace {
    private static final String[] FACE = {
        "public static final int LeastSets.BAD",
        "public static final int LeastSets.NO",
        "public static final int LeastSets.FULL",
        "public LeastSets()",
        "public int LeastSets.axiom(int,int)",
        "public int LeastSets.drop(int)",
        "public int LeastSets.fix(int,boolean)",
        "public int LeastSets.weight(int,int)",
        "public int LeastSets.goal(int)",
        "public int LeastSets.follow(int)",
        "public int LeastSets.steps(int)",
        "public int LeastSets.causes()",
        "public int LeastSets.cures()",
        "public int LeastSets.cause(int)",
        "public int LeastSets.cure(int)",
        "public int LeastSets.lightest()",
        "public int LeastSets.times(int,int)",
        "public int LeastSets.within(int)",
        "public int LeastSets.common()",
        "public int LeastSets.axioms()",
        "public int LeastSets.fact(int) throws java.lang.ArrayIndexOutOfBoundsException",
    };

    private static Set<String> seen() {
        Set<String> members = new TreeSet<>();
        for (Field field : LeastSets.class.getDeclaredFields()) {
            if (!Modifier.isPrivate(field.getModifiers())) {
                members.add(field.toString());
            }
        }
        for (Constructor<?> constructor : LeastSets.class.getDeclaredConstructors()) {
            if (!Modifier.isPrivate(constructor.getModifiers())) {
                members.add(constructor.toString());
            }
        }
        for (Method method : LeastSets.class.getDeclaredMethods()) {
            if (!Modifier.isPrivate(method.getModifiers())) {
                members.add(method.toString());
            }
        }
        return members;
    }

    private static boolean classIsAsDue() {
        int modifiers = LeastSets.class.getModifiers();
        return Modifier.isPublic(modifiers) && Modifier.isFinal(modifiers)
            && LeastSets.BAD == -1 && LeastSets.NO == -2 && LeastSets.FULL == -3;
    }

    public static void main(String[] args) {
        Set<String> want = new TreeSet<>(Set.of(FACE));
        Set<String> got = seen();
        boolean right = want.equals(got) && classIsAsDue();
        System.out.println(right ? "the face is as due" : "the face is " + got + ", due is " + want);
        if (!right) {
            System.exit(1);
        }
    }
}
