import java.lang.reflect.InvocationTargetException;
import java.lang.reflect.Method;
import java.lang.reflect.Modifier;
import java.util.ArrayList;
import java.util.Arrays;
import java.util.List;
import java.util.Map;
import java.util.Random;
import java.util.Set;
import java.util.TreeMap;

/**
 * "What is refused changes nothing, but what reads the TAPE empties it in any case": every call, with
 * numbers of all edges, in several states. The answer is the model's; and where it is a refusal, the desk
 * goes on like a twin that was not asked at all.
 */
public final class RefusedTest {
    private static final Due DUE = new Due();
    private static final long LAST = 3155759999L;
    private static final Set<String> READS_TAPE = Set.of("authority", "signer", "answer", "look");
    private static final Set<String> ONLY_TELLS = Set.of("size", "out", "passes", "found", "held", "check", "clock", "hash", "key", "told");
    private static final int[] INTS = {Integer.MIN_VALUE, Integer.MIN_VALUE + 4, -2, -1, 0, 1, 2, 3, 4, 5, 7, 8, 9, 10, 11, 12, 14, 15, 16,
        17, 33, 255, 256, 1499, 1500, 1501, 1000000000, 1000000001, 1073741788, 1073741789, Integer.MAX_VALUE};
    private static final long[] LONGS = {Long.MIN_VALUE, -LAST, -1, 0, 1, 2000, 2100, LAST - 2000, LAST - 1999, LAST - 1, LAST, LAST + 1,
        Long.MAX_VALUE};

    /** A call with its numbers. */
    private static final class Call {
        final String name;
        final Object[] with;

        Call(String name, Object... with) {
            this.name = name;
            this.with = with;
        }

        @Override
        public String toString() {
            return name + Arrays.toString(with);
        }
    }

    private final Map<String, Method> desks = methods(StatusDesk.class);
    private final Map<String, Method> models = methods(Model.class);
    private final Random random = new Random(27);
    private final List<Call> probe = probe();
    private int refusals;

    public static void main(String[] args) {
        RefusedTest test = new RefusedTest();
        test.inState("new", List.of());
        test.inState("some", some());
        test.inState("full", full());
        test.inState("a name", with(some(), new Call("cut", 0), new Call("feed", 0x636261L, 3)));
        test.inState("that name", with(some(), new Call("cut", 0), new Call("feed", 0x746F6F72L, 4)));
        test.inState("an ask", with(some(), new Call("want", 0, 7), new Call("ask"), new Call("take")));
        test.inState("an answer", with(some(), new Call("take")));
        DUE.is("there were refusals, " + test.refusals, test.refusals > 1000, true);
        DUE.end("RefusedTest");
    }

    private static Map<String, Method> methods(Class<?> of) {
        Map<String, Method> all = new TreeMap<>();
        for (Method method : of.getDeclaredMethods()) {
            if (!Modifier.isPrivate(method.getModifiers()) && !method.isSynthetic()) {
                all.put(method.getName(), method);
            }
        }
        return all;
    }

    private static List<Call> with(List<Call> first, Call... then) {
        List<Call> all = new ArrayList<>(first);
        all.addAll(Arrays.asList(then));
        return all;
    }

    /** Two authorities, a signer, something wanted and on the TAPE, a FIND that is held and one that is not. */
    private static List<Call> some() {
        return with(List.of(), new Call("feed", 0x746F6F72L, 4), new Call("authority", 12345),
                new Call("feed", 0x726568746FL, 5), new Call("authority", 54321),
                new Call("issue", 0, 7), new Call("issue", 0, 8), new Call("issue", 1, 9),
                new Call("takeBack", 0, 8, 2000L, 6), new Call("takeBack", 1, 9, 2000L, 1),
                new Call("feed", 0x676973L, 3), new Call("signer", 0, 777, 10, 0L, 100000L, 1),
                new Call("nonce", 0x0201L, 2), new Call("want", 0, 7), new Call("want", 0, 8), new Call("ask"), new Call("take"),
                new Call("answer", 4, 2000L, 500L), new Call("take"), new Call("look", 0, 7, 2100L, 10, 100), new Call("hold"),
                new Call("take"), new Call("look", 0, 8, 2100L, 10, 100), new Call("want", 1, 5), new Call("feed", -1L, 8));
    }

    /** All that has a bound is at it, and a FIND waits to be held. */
    private static List<Call> full() {
        List<Call> all = new ArrayList<>();
        for (int i = 0; i < 4; i++) {
            all.add(new Call("feed", (long) (i + 1), 2));
            all.add(new Call("authority", i + 1));
        }
        for (int i = 0; i < 32; i++) {
            all.add(new Call("issue", 0, i));
        }
        all.add(new Call("takeBack", 0, 7, 2000L, 6));
        for (int i = 0; i < 8; i++) {
            all.add(new Call("feed", 0x676973L, 3));
            all.add(new Call("signer", 0, 777 + i, i, 0L, LAST, 1));
        }
        all.add(new Call("nonce", -1L, 8));
        for (int i = 0; i < 8; i++) {
            all.add(new Call("want", 0, i));
        }
        all.addAll(List.of(new Call("ask"), new Call("take"), new Call("answer", 11, 2000L, 500L)));
        for (int i = 0; i < 17; i++) {
            all.add(new Call("take"));
            all.add(new Call("look", 0, i % 8, 2100L, 10, 100));
            all.add(new Call(i == 16 ? "size" : "hold"));
        }
        for (int i = 0; i < 8; i++) {
            all.add(new Call("want", i % 4, i));
        }
        for (int i = 0; i < 187; i++) {
            all.add(new Call("feed", (long) i, 8));
        }
        all.add(new Call("feed", 5L, 4));
        return all;
    }

    /** What is asked of a desk and its twin: it looks at all that a desk keeps. */
    private static List<Call> probe() {
        List<Call> all = new ArrayList<>(List.of(new Call("hash"), new Call("size"), new Call("passes", true), new Call("passes", false)));
        for (int i = 0; i < 8; i++) {
            all.add(new Call("told", i));
            all.add(new Call("key", i / 4, i % 4));
        }
        for (int i = 0; i < 5; i++) {
            all.add(new Call("found", i));
        }
        for (int serial = 0; serial < 9; serial++) {
            all.add(new Call("held", 0, serial, 2500L));
        }
        all.addAll(List.of(new Call("hold"), new Call("told", 4), new Call("held", 0, 8, 2100L), new Call("take"), new Call("hash"),
                new Call("want", 0, 0), new Call("ask"), new Call("take"), new Call("hash"),
                new Call("want", 0, 7), new Call("want", 0, 8), new Call("want", 0, 50), new Call("ask"), new Call("take"),
                new Call("answer", 4, 2000L, 0L), new Call("take"), new Call("hash"), new Call("look", 0, 7, 2000L, 0, 0),
                new Call("cert", 0), new Call("take"), new Call("hash"), new Call("cert", 1), new Call("cert", 8),
                new Call("takeBack", 0, 7, 5L, 5), new Call("takeBack", 0, 8, 5L, 5), new Call("lift", 0, 8), new Call("lift", 1, 9),
                new Call("issue", 0, 8), new Call("issue", 0, 60), new Call("issue", 1, 60), new Call("takeBack", 0, 60, 5L, 5),
                new Call("cut", 0), new Call("feed", 0x7A7AL, 2), new Call("signer", 0, 5, 61, 0L, 0L, 0), new Call("size"),
                new Call("feed", 0x7A7AL, 2), new Call("authority", 9), new Call("told", 0), new Call("told", 1)));
        return all;
    }

    /** A call that throws is not as due, whatever it throws. */
    private static long ask(Map<String, Method> methods, Object target, Call call) {
        try {
            Object answer = methods.get(call.name).invoke(target, call.with);
            if (answer instanceof Boolean) {
                return (Boolean) answer ? 1 : 0;
            }
            return ((Number) answer).longValue();
        } catch (InvocationTargetException thrown) {
            DUE.is(call + " threw " + thrown.getCause(), 0, 1);
            return Long.MIN_VALUE;
        } catch (IllegalAccessException hidden) {
            throw new IllegalStateException(hidden);
        }
    }

    private StatusDesk desk(List<Call> state) {
        StatusDesk desk = new StatusDesk();
        for (Call call : state) {
            ask(desks, desk, call);
        }
        return desk;
    }

    private Model model(List<Call> state) {
        Model model = new Model();
        for (Call call : state) {
            ask(models, model, call);
        }
        return model;
    }

    private void inState(String name, List<Call> state) {
        DUE.sentence("what is refused changes nothing; " + name, () -> {
            DUE.is("the state is reached in " + state.size() + " calls", state.size() + probe.size() < 512, true);
            Model model = model(state);
            long[] untouched = probed(desk(state));
            StatusDesk read = desk(state);
            read.cut(0);
            long[] emptied = probed(read);
            for (Call call : calls()) {
                StatusDesk desk = desk(state);
                long answer = ask(desks, desk, call);
                DUE.is(call.toString(), answer, ask(models, model, call));
                boolean refused = answer < 0 || call.name.equals("lift") && answer == 0;
                if (refused || ONLY_TELLS.contains(call.name)) {
                    refusals += refused ? 1 : 0;
                    isLike(call, probed(desk), READS_TAPE.contains(call.name) ? emptied : untouched);
                }
                if (!ONLY_TELLS.contains(call.name)) {
                    model = READS_TAPE.contains(call.name) || !refused ? model(state) : model;
                }
            }
        });
    }

    private long[] probed(StatusDesk desk) {
        long[] answers = new long[probe.size()];
        for (int i = 0; i < answers.length; i++) {
            answers[i] = ask(desks, desk, probe.get(i));
        }
        return answers;
    }

    private void isLike(Call call, long[] got, long[] due) {
        for (int i = 0; i < got.length; i++) {
            if (got[i] != due[i]) {
                DUE.is("behind " + call + ", " + probe.get(i), got[i], due[i]);
                return;
            }
        }
        DUE.is("behind " + call, 0, 0);
    }

    /** Each call of the face, right but for one number, which is at an edge; and some with all at edges. */
    private List<Call> calls() {
        Map<String, Object[]> right = new TreeMap<>();
        right.put("feed", new Object[] {5L, 3});
        right.put("spoil", new Object[] {0, 1});
        right.put("authority", new Object[] {99});
        right.put("issue", new Object[] {0, 70});
        right.put("takeBack", new Object[] {0, 7, 1000L, 6});
        right.put("lift", new Object[] {0, 8});
        right.put("signer", new Object[] {0, 99, 71, 0L, 5000L, 1});
        right.put("answer", new Object[] {0, 2000L, 500L});
        right.put("look", new Object[] {0, 7, 2100L, 10, 100});
        right.put("held", new Object[] {0, 7, 2100L});
        List<Call> all = new ArrayList<>();
        for (Method method : desks.values()) {
            Class<?>[] types = method.getParameterTypes();
            Object[] base = new Object[types.length];
            for (int i = 0; i < types.length; i++) {
                base[i] = types[i] == long.class ? (Object) 0L : types[i] == int.class ? (Object) 0 : (Object) true;
            }
            base = right.getOrDefault(method.getName(), base);
            all.add(new Call(method.getName(), base));
            for (int i = 0; i < types.length; i++) {
                for (Object edge : edges(types[i])) {
                    Object[] with = base.clone();
                    with[i] = edge;
                    all.add(new Call(method.getName(), with));
                }
            }
            for (int k = 0; types.length > 1 && k < 20; k++) {
                all.add(new Call(method.getName(), anyEdges(types)));
            }
        }
        return all;
    }

    private static List<Object> edges(Class<?> type) {
        List<Object> all = new ArrayList<>();
        if (type == boolean.class) {
            all.add(false);
        } else if (type == int.class) {
            Arrays.stream(INTS).forEach(all::add);
        } else {
            Arrays.stream(LONGS).forEach(all::add);
        }
        return all;
    }

    private Object[] anyEdges(Class<?>[] types) {
        Object[] with = new Object[types.length];
        for (int i = 0; i < types.length; i++) {
            List<Object> edges = edges(types[i]);
            with[i] = edges.get(random.nextInt(edges.size()));
        }
        return with;
    }
}
