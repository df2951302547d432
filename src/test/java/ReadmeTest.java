import java.lang.reflect.InvocationTargetException;
import java.lang.reflect.Method;
import java.lang.reflect.Modifier;
import java.nio.file.Files;
import java.nio.file.Path;
import java.util.ArrayList;
import java.util.List;
import java.util.regex.Matcher;
import java.util.regex.Pattern;

/** README.md, from the project's folder: its example answers what it says, and it has a row for each call. */
public final class ReadmeTest {
    private static final Pattern CALL = Pattern.compile("fair\\.(\\w+)\\(([^)]*)\\); +// (throws )?([\\w-]+):.*");
    private static final Pattern ROW = Pattern.compile("\\| `(\\w+)\\(([^)]*)\\)` \\|.*\\|([^|]*)\\|");
    private static final Pattern EXCEPTION = Pattern.compile("\\w+Exception");

    public static void main(String[] args) throws Exception {
        List<String> lines = Files.readAllLines(Path.of("README.md"));
        example(lines);
        rows(lines);
        textOfExample(lines);
        Due.end();
    }

    private static void example(List<String> lines) throws Exception {
        int start = lines.indexOf("FairWalls fair = new FairWalls();") + 1;
        int end = lines.subList(start, lines.size()).indexOf("```") + start;
        FairWalls fair = new FairWalls();
        for (String line : lines.subList(start, end)) {
            Matcher call = CALL.matcher(line);
            Due.same(line + " is a call", Boolean.toString(call.matches()), "true");
            String due = call.group(4).equals("NONE") ? "-1" : call.group(4);
            Due.same(line, answer(fair, call.group(1), call.group(2)), due);
        }
        Due.is("the example has calls", end - start > 10 ? 1 : 0, 1);
    }

    private static Method methodOf(String name) {
        for (Method method : FairWalls.class.getDeclaredMethods()) {
            if (method.getName().equals(name) && Modifier.isPublic(method.getModifiers())) {
                return method;
            }
        }
        throw new IllegalArgumentException(name);
    }

    private static String answer(FairWalls fair, String name, String written) throws Exception {
        Method method = methodOf(name);
        Class<?>[] types = method.getParameterTypes();
        Object[] arguments = new Object[types.length];
        String[] numbers = written.split(", ");
        for (int i = 0; i < types.length; i++) {
            long number = Long.parseLong(numbers[i].replace("L", ""));
            arguments[i] = types[i] == long.class ? (Object) number : (Object) (int) number;
        }
        try {
            return method.invoke(fair, arguments).toString();
        } catch (InvocationTargetException e) {
            return e.getCause().getClass().getSimpleName();
        }
    }

    /** One row a call, with as many arguments, and the exceptions in the order of the face. */
    private static void rows(List<String> lines) {
        List<String> named = new ArrayList<>();
        for (String line : lines) {
            Matcher row = ROW.matcher(line);
            if (row.matches()) {
                named.add(row.group(1));
                Method method = methodOf(row.group(1));
                int arguments = row.group(2).isEmpty() ? 0 : row.group(2).split(", ").length;
                Due.is("arguments of " + row.group(1), arguments, method.getParameterCount());
                Due.same("exceptions of " + row.group(1), thrownIn(row.group(3)), thrownBy(method));
            }
        }
        for (Method method : FairWalls.class.getDeclaredMethods()) {
            if (Modifier.isPublic(method.getModifiers())) {
                Due.is("a row of " + method.getName(), named.contains(method.getName()) ? 1 : 0, 1);
            }
        }
        Due.is("rows", named.size(), 28);
    }

    private static String thrownIn(String cell) {
        StringBuilder thrown = new StringBuilder();
        Matcher name = EXCEPTION.matcher(cell);
        while (name.find()) {
            thrown.append(name.group()).append(' ');
        }
        return thrown.toString();
    }

    private static String thrownBy(Method method) {
        StringBuilder thrown = new StringBuilder();
        for (Class<?> type : method.getExceptionTypes()) {
            thrown.append(type.getSimpleName()).append(' ');
        }
        return thrown.toString();
    }

    /** The text that README.md gives makes the fair that the example has ahead of its days. */
    private static void textOfExample(List<String> lines) {
        String text = "Aw10o0022d132d121p0000p1008";
        Due.is("the text stands there", String.join(" ", lines).contains("`" + text + "`") ? 1 : 0, 1);
        FairWalls fair = Due.fair(text);
        Due.is("its rents for 2 days", fair.days(2), 84);
        Due.is("its pitches", 100 * fair.dealerOf(0, 4) + fair.dealerOf(1, 4), 8);
        Due.is("its reason", fair.swap(0, 1), 3);
    }
}
