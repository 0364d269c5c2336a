import java.io.IOException;
import java.lang.reflect.InvocationTargetException;
import java.lang.reflect.Method;
import java.lang.reflect.Modifier;
import java.nio.file.Files;
import java.nio.file.Path;
import java.util.ArrayList;
import java.util.List;
import java.util.regex.Matcher;
import java.util.regex.Pattern;

/** README.md: its example is run as it stands there, and its tables lack no call, no verdict and no test. */
public final class ReadmeTest {
    private static final Due DUE = new Due();
    private static final Pattern CALL = Pattern.compile("desk\\.(\\w+)\\(([^)]*)\\); *// (-?\\w+)(:.*)?");
    private static final Pattern VERDICT = Pattern.compile("\\| (\\d+) \\| ([^|]+) \\| (yes|no) \\| (yes|no) \\|");

    private ReadmeTest() {
    }

    public static void main(String[] args) throws IOException, ReflectiveOperationException {
        Path source = Path.of(args.length > 0 ? args[0] : "src/main/java/StatusDesk.java").toAbsolutePath();
        Path root = source.getParent().getParent().getParent().getParent();
        String text = Files.readString(root.resolve("README.md"));
        example(text);
        calls(text);
        constants(text);
        verdicts(text);
        tests(text, root.resolve("src/test/java"));
        DUE.is("how the tests are run", text.contains("\n.ci/run\n"), true);
        DUE.end("ReadmeTest");
    }

    private static void example(String text) throws ReflectiveOperationException {
        int begin = text.indexOf("```java\n");
        int end = text.indexOf("```\n", begin + 1);
        DUE.is("there is an example", begin >= 0 && end > begin, true);
        StatusDesk desk = null;
        for (String line : text.substring(begin + 8, end).split("\n")) {
            if (line.equals("StatusDesk desk = new StatusDesk();")) {
                desk = new StatusDesk();
            } else if (!line.isEmpty() && !line.startsWith("//")) {
                Matcher call = CALL.matcher(line);
                DUE.is("a call and its answer: " + line, call.matches() && desk != null, true);
                DUE.is(line, answer(desk, call.group(1), call.group(2)), number(call.group(3)));
            }
        }
    }

    private static long number(String word) {
        return word.equals("true") ? 1 : word.equals("false") ? 0 : Long.decode(word.replace("L", ""));
    }

    private static long answer(StatusDesk desk, String name, String words) throws ReflectiveOperationException {
        Method method = named(name);
        Class<?>[] types = method.getParameterTypes();
        String[] each = words.isEmpty() ? new String[0] : words.split(", ");
        List<Object> given = new ArrayList<>();
        for (int i = 0; i < each.length; i++) {
            long value = number(each[i]);
            given.add(types[i] == long.class ? (Object) value : types[i] == int.class ? (Object) (int) value : value == 1);
        }
        try {
            return number(method.invoke(desk, given.toArray()).toString());
        } catch (InvocationTargetException thrown) {
            DUE.is(name + " threw " + thrown.getCause(), 1, 0);
            return Long.MIN_VALUE;
        }
    }

    private static Method named(String name) throws NoSuchMethodException {
        for (Method method : StatusDesk.class.getDeclaredMethods()) {
            if (method.getName().equals(name)) {
                return method;
            }
        }
        throw new NoSuchMethodException(name);
    }

    private static void calls(String text) {
        for (Method method : StatusDesk.class.getDeclaredMethods()) {
            if (Modifier.isPublic(method.getModifiers())) {
                Matcher row = Pattern.compile("\\| `" + method.getName() + "\\(([^)]*)\\)` \\|").matcher(text);
                boolean told = row.find();
                DUE.is("a row for " + method.getName(), told, true);
                int named = !told || row.group(1).isEmpty() ? 0 : row.group(1).split(", ").length;
                DUE.is("arguments of " + method.getName(), named, method.getParameterCount());
            }
        }
    }

    private static void constants(String text) {
        DUE.is("NONE", text.contains("`NONE` (" + StatusDesk.NONE + ")"), true);
        DUE.is("BAD", text.contains("`BAD` (" + StatusDesk.BAD + ")"), true);
        DUE.is("FULL", text.contains("`FULL` (" + StatusDesk.FULL + ")"), true);
    }

    /** By promise 19: hard lets 1 alone pass; else all pass but 2, 22 and those from 24 to 28. */
    private static void verdicts(String text) {
        Matcher row = VERDICT.matcher(text);
        List<Integer> told = new ArrayList<>();
        while (row.find()) {
            int verdict = Integer.parseInt(row.group(1));
            told.add(verdict);
            DUE.is(verdict + " when hard", row.group(3).equals("yes"), verdict == 1);
            boolean passes = verdict != 2 && verdict != 22 && !(verdict >= 24 && verdict <= 28);
            DUE.is(verdict + " else", row.group(4).equals("yes"), passes);
        }
        List<Integer> all = List.of(1, 2, 3, 21, 22, 23, 24, 25, 26, 27, 28, 29, 30, 31, 32, 33);
        DUE.is("the verdicts are " + told, told.equals(all), true);
    }

    private static void tests(String text, Path place) throws IOException {
        List<String> names;
        try (var files = Files.list(place)) {
            names = files.map(file -> file.getFileName().toString()).filter(name -> name.endsWith(".java")).toList();
        }
        for (String name : names) {
            DUE.is("named: " + name, text.contains("`" + name.replace(".java", "") + "`"), true);
        }
        Matcher row = Pattern.compile("\\| `(\\w+Test)` \\|").matcher(text);
        while (row.find()) {
            DUE.is("there is a " + row.group(1), names.contains(row.group(1) + ".java"), true);
        }
    }
}
