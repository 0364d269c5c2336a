import java.io.IOException;
import java.lang.reflect.Constructor;
import java.lang.reflect.Field;
import java.lang.reflect.Method;
import java.lang.reflect.Modifier;
import java.nio.file.Files;
import java.nio.file.Path;
import java.util.Arrays;
import java.util.List;
import java.util.Set;
import java.util.TreeSet;
import java.util.regex.Matcher;
import java.util.regex.Pattern;
import java.util.stream.Collectors;

/** The document's face, and those rules of LANGUAGE.md that a machine sees easily. */
public final class LanguageTest {
    private static final Due DUE = new Due();
    private static final String[] FACE = {
        "int feed(long, int)", "int take()", "int spoil(int, int)", "int cut(int)", "int size()", "int out(int)",
        "int authority(int)", "int issue(int, int)", "int takeBack(int, int, long, int)", "boolean lift(int, int)",
        "int signer(int, int, int, long, long, int)", "int cert(int)", "int want(int, int)", "int nonce(long, int)",
        "int ask()", "int answer(int, long, long)", "int look(int, int, long, int, int)", "boolean passes(boolean)",
        "long found(int)", "int hold()", "int held(int, int, long)", "int check(int)", "int clock(long, int)",
        "long hash()", "int key(int, int)", "int told(int)"};
    private static final Set<String> NAMES = Arrays.stream(FACE)
            .map(line -> line.substring(line.indexOf(' ') + 1, line.indexOf('('))).collect(Collectors.toSet());
    private static final String[] WORDS = {"throw", "throws", "try", "catch", "finally", "synchronized", "assert",
        "import", "package", "protected", "instanceof", "double", "float", "hashCode", "equals", "toString"};
    private static final Set<Class<?>> CONSTANTS = Set.of(int.class, long.class, boolean.class, char.class,
            String.class, int[].class, long[].class, char[].class, byte[].class);

    private static final Pattern METHOD =
            Pattern.compile("( {4}| {8})((?!if |for |while |switch )\\w[^=;(]* )?(\\w+)\\([^=;]*\\) \\{");

    private LanguageTest() {
    }

    public static void main(String[] args) throws IOException {
        face();
        classes();
        source(Files.readString(Path.of(args.length > 0 ? args[0] : "src/main/java/StatusDesk.java")));
        DUE.end("LanguageTest");
    }

    private static String signature(Method method) {
        String types = Arrays.stream(method.getParameterTypes()).map(Class::getSimpleName).collect(Collectors.joining(", "));
        return method.getReturnType().getSimpleName() + " " + method.getName() + "(" + types + ")";
    }

    private static void face() {
        Set<String> seen = new TreeSet<>();
        for (Method method : StatusDesk.class.getDeclaredMethods()) {
            if (!Modifier.isPrivate(method.getModifiers())) {
                seen.add(signature(method));
                DUE.is("rule 1: public, " + method, Modifier.isPublic(method.getModifiers()), true);
            } else {
                DUE.is("rule 1: the name of " + method, NAMES.contains(method.getName()), false);
            }
        }
        DUE.is("rule 1: the face, " + seen, seen.equals(new TreeSet<>(Arrays.asList(FACE))), true);
        DUE.is("rule 1: final", Modifier.isFinal(StatusDesk.class.getModifiers()), true);
        Constructor<?>[] constructors = StatusDesk.class.getDeclaredConstructors();
        DUE.is("rule 1: one constructor", constructors.length, 1);
        DUE.is("rule 1: without arguments", constructors[0].getParameterCount(), 0);
        DUE.is("NONE", StatusDesk.NONE, -1);
        DUE.is("BAD", StatusDesk.BAD, -2);
        DUE.is("FULL", StatusDesk.FULL, -3);
        for (Field field : StatusDesk.class.getDeclaredFields()) {
            boolean open = Set.of("NONE", "BAD", "FULL").contains(field.getName());
            DUE.is("rule 1: " + field, Modifier.isPrivate(field.getModifiers()), !open);
        }
    }

    private static void classes() {
        Class<?>[] inside = StatusDesk.class.getDeclaredClasses();
        DUE.is("rule 11: classes", inside.length + 1 <= 12, true);
        for (Class<?> one : inside) {
            int modifiers = one.getModifiers();
            DUE.is("rule 1: " + one, Modifier.isStatic(modifiers) && !Modifier.isPublic(modifiers)
                    && !Modifier.isProtected(modifiers), true);
            for (Method method : one.getDeclaredMethods()) {
                DUE.is("rule 1: the name of " + method, NAMES.contains(method.getName()), false);
            }
            isSmall(one);
        }
        isSmall(StatusDesk.class);
    }

    private static void isSmall(Class<?> one) {
        long fields = 0;
        for (Field field : one.getDeclaredFields()) {
            boolean isStatic = Modifier.isStatic(field.getModifiers());
            fields += isStatic ? 0 : 1;
            DUE.is("rule 5: " + field,
                    !isStatic || Modifier.isFinal(field.getModifiers()) && CONSTANTS.contains(field.getType()), true);
        }
        DUE.is("rule 11: fields of " + one, fields <= 20, true);
        for (Method method : one.getDeclaredMethods()) {
            DUE.is("rule 11: " + method, method.getParameterCount() <= 7, true);
            DUE.is("rule 2: no lambda, " + method, method.isSynthetic(), false);
        }
    }

    private static void source(String text) {
        String code = text.replaceAll("(?s)/\\*.*?\\*/", "").replaceAll("//[^\n]*", "");
        for (String word : WORDS) {
            DUE.is("rules 4 and 6: " + word, Pattern.compile("\\b" + word + "\\b").matcher(code).find(), false);
        }
        for (String sign : List.of("->", "::", "Exact(", "static {", "\"")) {
            DUE.is("rules 2, 4, 5: " + sign, code.contains(sign), false);
        }
        DUE.is("rule 3: texts", text.chars().allMatch(c -> c < 256), true);
        methods(text.split("\n"));
    }

    /** A method's last line is the first brace that stands as far in as its first line. */
    private static void methods(String[] rows) {
        int seen = 0;
        for (int first = 0; first < rows.length; first++) {
            Matcher head = METHOD.matcher(rows[first]);
            if (head.matches()) {
                int last = first + 1;
                while (last < rows.length && !rows[last].equals(head.group(1) + "}")) {
                    last++;
                }
                boolean isConstructor = Character.isUpperCase(head.group(3).charAt(0));
                method(rows, first, last, isConstructor);
                seen += isConstructor ? 0 : 1;
            }
        }
        int all = StatusDesk.class.getDeclaredMethods().length;
        for (Class<?> one : StatusDesk.class.getDeclaredClasses()) {
            all += one.getDeclaredMethods().length;
        }
        DUE.is("methods seen in the source", seen, all);
    }

    private static void method(String[] rows, int first, int last, boolean isConstructor) {
        DUE.is("rule 11: the method at line " + (first + 1), last - first <= 60, true);
        for (int i = first; i < last; i++) {
            boolean makes = Pattern.compile("\\bnew\\b").matcher(rows[i].replaceAll("//.*|^ *\\*.*", "")).find();
            DUE.is("rule 12: a row is made in constructors alone, line " + (i + 1), makes && !isConstructor, false);
        }
    }
}
