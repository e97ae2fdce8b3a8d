import java.io.IOException;
import java.lang.reflect.InvocationTargetException;
import java.lang.reflect.Method;
import java.nio.file.Files;
import java.nio.file.Path;
import java.util.Set;
import java.util.TreeSet;
import java.util.regex.Matcher;
import java.util.regex.Pattern;

/**
 * The example of README.md: each call answers what stands behind it, and each method of the face is
 * called there. It is run in the project's folder.
 */
public final class LeastSetsReadme {
    private static final Pattern CALL =
        Pattern.compile("x\\.(\\w+)\\((.*)\\); +// (-?\\d+|throws \\w+).*");

    private static int wrong = 0;

    private static void fault(String text) {
        wrong++;
        System.out.println(text);
    }

    private static Set<String> face() {
        Set<String> names = new TreeSet<>();
        for (Method method : LeastSets.class.getMethods()) {
            if (method.getDeclaringClass() == LeastSets.class) {
                names.add(method.getName());
            }
        }
        return names;
    }

    private static Method named(String name) {
        for (Method method : LeastSets.class.getMethods()) {
            if (method.getName().equals(name)) {
                return method;
            }
        }
        throw new IllegalArgumentException("no method " + name);
    }

    private static Object value(String written) {
        if (written.equals("true") || written.equals("false")) {
            return Boolean.valueOf(written);
        }
        String[] shifted = written.split(" << ");
        int number = Integer.parseInt(shifted[0]);
        return shifted.length == 1 ? number : number << Integer.parseInt(shifted[1]);
    }

    private static Object[] values(String written) {
        if (written.isEmpty()) {
            return new Object[0];
        }
        String[] parts = written.split(", ");
        Object[] values = new Object[parts.length];
        for (int i = 0; i < parts.length; i++) {
            values[i] = value(parts[i]);
        }
        return values;
    }

    private static String answer(LeastSets x, String name, String arguments)
            throws IllegalAccessException {
        try {
            return String.valueOf(named(name).invoke(x, values(arguments)));
        } catch (InvocationTargetException e) {
            return "throws " + e.getCause().getClass().getSimpleName();
        }
    }

    private static String example() throws IOException {
        String text = Files.readString(Path.of("README.md"));
        int from = text.indexOf("```java\n");
        return text.substring(from, text.indexOf("```\n", from + 8));
    }

    public static void main(String[] args) throws IOException, IllegalAccessException {
        LeastSets x = new LeastSets();
        Set<String> missing = face();
        int calls = 0;
        for (String line : example().split("\n")) {
            Matcher call = CALL.matcher(line);
            if (call.matches()) {
                calls++;
                missing.remove(call.group(1));
                String got = answer(x, call.group(1), call.group(2));
                if (!got.equals(call.group(3))) {
                    fault(line + " -- the answer was " + got);
                }
            } else if (line.startsWith("x.")) {
                fault(line + " -- tells no answer");
            }
        }
        if (!missing.isEmpty()) {
            fault("the example does not call " + missing);
        }
        System.out.println(calls + " calls of README.md looked at, " + wrong + " faults");
        if (wrong != 0) {
            System.exit(1);
        }
    }
}
