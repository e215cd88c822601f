import java.lang.reflect.InvocationTargetException;
import java.lang.reflect.Method;
import java.util.ArrayList;
import java.util.Arrays;
import java.util.List;
import java.util.Map;
import java.util.TreeMap;

/** A SnowReign and a PlainModel that are called alike; calls whose answers differ are wrong. */
final class Pair {
    private static final Map<String, Method> OF_CLASS = methods(SnowReign.class, true);
    private static final Map<String, Method> OF_MODEL = methods(PlainModel.class, false);

    final SnowReign reign = new SnowReign();
    final PlainModel model = new PlainModel();
    private final List<String> calls = new ArrayList<>();
    private final Due due;

    Pair(Due due) {
        this.due = due;
    }

    private static Map<String, Method> methods(Class<?> of, boolean publicOnly) {
        Map<String, Method> all = new TreeMap<>();
        for (Method m : publicOnly ? of.getMethods() : of.getDeclaredMethods()) {
            boolean told = Arrays.stream(SnowReign.class.getDeclaredMethods())
                .anyMatch(p -> java.lang.reflect.Modifier.isPublic(p.getModifiers()) && p.getName().equals(m.getName())
                    && Arrays.equals(p.getParameterTypes(), m.getParameterTypes()));
            if (told) {
                all.put(m.getName(), m);
            }
        }
        return all;
    }

    static Map<String, Method> face() {
        return OF_CLASS;
    }

    long call(String name, int... args) {
        String told = name + Arrays.toString(args).replace('[', '(').replace(']', ')');
        calls.add(told);
        long got = invoke(OF_CLASS.get(name), reign, args);
        long want = invoke(OF_MODEL.get(name), model, args);
        if (got != want && !due.anyWrong()) {
            System.out.println("calls: " + calls);
        }
        due.is(told, got, want);
        return want;
    }

    void tell(String text) {
        for (char c : text.toCharArray()) {
            call("feed", c);
        }
        call("text");
    }

    /** Everything that can be asked of the state without a change. */
    void compareState() {
        call("fault");
        call("torn");
        for (int what = 0; what <= 5; what++) {
            call("rule", what);
            call("count", what);
        }
        for (int i = 0; i < 5; i++) {
            for (int what = 0; what < 5; what++) {
                call("figure", i, what);
            }
        }
        for (int d = 0; d < 7; d++) {
            call("week", d, 0);
            call("week", d, 1);
        }
    }

    static long invoke(Method m, Object on, int[] args) {
        try {
            return ((Number) m.invoke(on, Arrays.stream(args).boxed().toArray())).longValue();
        } catch (InvocationTargetException e) {
            throw new IllegalStateException(m.getName() + Arrays.toString(args) + " threw", e.getCause());
        } catch (IllegalAccessException e) {
            throw new IllegalStateException(e);
        }
    }
}
