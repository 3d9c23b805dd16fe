import java.io.IOException;
import java.lang.reflect.InvocationTargetException;
import java.lang.reflect.Method;
import java.nio.file.Files;
import java.nio.file.Path;
import java.util.List;
import java.util.TreeMap;
import java.util.TreeSet;
import java.util.regex.Matcher;
import java.util.regex.Pattern;
import java.util.stream.Stream;

/**
 * What README.md shows: each call in it is made, and answers what stands behind it; its tables name
 * all calls with what they throw, and all tests. A line that is in no form known here is wrong, so
 * that nothing is shown untested. Reads README.md in the folder it is run in.
 */
public final class ReadmeTest {
    private static final Pattern MAKING =
            Pattern.compile("StripeVault vault = new StripeVault\\((-?\\w+), (-?\\w+)\\);( +// .+)?");
    private static final Pattern CALL = Pattern.compile("vault\\.(\\w+)\\(([^()]*)\\); +// (.+)");
    private static final Pattern CALL_ROW = Pattern.compile("\\| `(\\w+)\\(([^()]*)\\)` \\|.+\\|([^|]*)\\|");
    private static final Pattern TEST_ROW = Pattern.compile("\\| (\\w+Test) \\|.+\\|");
    private static final Pattern EXCEPTION = Pattern.compile("\\w+Exception");

    private final TreeMap<String, Method> face = new TreeMap<>();
    private final TreeSet<String> shown = new TreeSet<>();
    private StripeVault vault;

    private ReadmeTest() {
        for (Method method : StripeVault.class.getMethods()) {
            if (method.getDeclaringClass() == StripeVault.class) {
                face.put(method.getName(), method);
            }
        }
    }

    public static void main(String[] args) throws IOException, ReflectiveOperationException {
        List<String> lines = Files.readAllLines(Path.of("README.md"));
        ReadmeTest test = new ReadmeTest();
        test.callsAnswerAsShown(lines);
        test.tableHasAllCalls(lines);
        tablesHaveAllTests(lines);
        Due.end();
    }

    private void callsAnswerAsShown(List<String> lines) throws ReflectiveOperationException {
        boolean inside = false;
        for (String line : lines) {
            if (line.startsWith("```")) {
                inside = line.equals("```java");
                vault = null;
            } else if (inside) {
                lineHolds(line);
            }
        }
        Due.same("the calls shown", shown.toString(), face.keySet().toString());
    }

    private void lineHolds(String line) throws ReflectiveOperationException {
        Matcher making = MAKING.matcher(line);
        Matcher call = CALL.matcher(line);
        if (making.matches()) {
            vault = new StripeVault(Integer.decode(making.group(1)), Integer.decode(making.group(2)));
        } else if (vault != null && call.matches() && face.containsKey(call.group(1))) {
            shown.add(call.group(1));
            callHolds(line, face.get(call.group(1)), call.group(2), call.group(3));
        } else {
            Due.same("is a call with its answer: " + line, false, true);
        }
    }

    /** The answer stands before the first colon; a call that answers nothing may have any text. */
    private void callHolds(String line, Method method, String arguments, String comment)
            throws ReflectiveOperationException {
        String got = answer(method, values(method, arguments));
        String said = comment.split(":")[0];
        String due = said.equals("NONE") ? String.valueOf(StripeVault.NONE) : said;
        Due.same(line, got, method.getReturnType() == void.class ? "null" : due);
    }

    private String answer(Method method, Object[] values) throws ReflectiveOperationException {
        try {
            return String.valueOf(method.invoke(vault, values));
        } catch (InvocationTargetException e) {
            return "throws " + e.getCause().getClass().getSimpleName();
        }
    }

    private static Object[] values(Method method, String arguments) {
        String[] texts = arguments.isEmpty() ? new String[0] : arguments.split(", ");
        Class<?>[] types = method.getParameterTypes();
        Object[] values = new Object[texts.length];
        for (int i = 0; i < texts.length; i++) {
            // As in Java: a number that is too great for an int needs its L.
            boolean isLong = texts[i].endsWith("L");
            long value = isLong
                    ? Long.decode(texts[i].substring(0, texts[i].length() - 1)) : Integer.decode(texts[i]);
            values[i] = i < types.length && types[i] == long.class || isLong ? (Object) value : (Object) (int) value;
        }
        return values;
    }

    private void tableHasAllCalls(List<String> lines) {
        TreeSet<String> found = new TreeSet<>();
        for (String line : lines) {
            Matcher row = CALL_ROW.matcher(line);
            if (row.matches()) {
                int count = row.group(2).isEmpty() ? 0 : row.group(2).split(", ").length;
                StringBuilder thrown = new StringBuilder();
                for (Matcher e = EXCEPTION.matcher(row.group(3)); e.find();) {
                    thrown.append(' ').append(e.group());
                }
                found.add(row.group(1) + " " + count + thrown);
            }
        }
        TreeSet<String> due = new TreeSet<>();
        for (Method method : face.values()) {
            StringBuilder thrown = new StringBuilder();
            for (Class<?> type : method.getExceptionTypes()) {
                thrown.append(' ').append(type.getSimpleName());
            }
            due.add(method.getName() + " " + method.getParameterCount() + thrown);
        }
        Due.same("the table of all calls", found.toString(), due.toString());
    }

    private static void tablesHaveAllTests(List<String> lines) throws IOException {
        TreeSet<String> named = new TreeSet<>();
        for (String line : lines) {
            Matcher row = TEST_ROW.matcher(line);
            if (row.matches()) {
                Due.same(row.group(1) + " stands once", named.add(row.group(1)), true);
            }
        }
        TreeSet<String> there = new TreeSet<>();
        try (Stream<Path> files = Files.list(Path.of("src/test/java"))) {
            files.map(file -> file.getFileName().toString().replace(".java", ""))
                    .filter(name -> name.endsWith("Test")).forEach(there::add);
        }
        Due.same("the tables of tests", named.toString(), there.toString());
    }
}
