import java.lang.reflect.Method;
import java.util.Arrays;
import java.util.HashMap;
import java.util.Map;
import java.util.Set;

/** An object and a Model that get the same calls, 512 at most; each answer is held against the Model's. */
final class Twins {
    /** "An object is used for at most 512 calls after it has been made". */
    static final int CALLS = 512;
    private static final Map<String, Method> OURS = byNames(RiverDays.class);
    private static final Map<String, Method> DUE = byNames(Model.class);

    final Model model = new Model();
    private final RiverDays x = new RiverDays();
    private final StringBuilder story = new StringBuilder();
    private int made = 0;
    private int wrong = 0;

    private static Map<String, Method> byNames(Class<?> type) {
        Map<String, Method> methods = new HashMap<>();
        for (Method m : RiverDays.class.getMethods()) {
            if (m.getDeclaringClass() == RiverDays.class) {
                methods.put(m.getName(), like(m, type));
            }
        }
        return methods;
    }

    private static Method like(Method m, Class<?> type) {
        try {
            return type.getDeclaredMethod(m.getName(), m.getParameterTypes());
        } catch (NoSuchMethodException e) {
            throw new IllegalStateException(m.getName(), e);
        }
    }

    static int parameters(String name) {
        return OURS.get(name).getParameterCount();
    }

    static Set<String> names() {
        return OURS.keySet();
    }

    /** A call as it is written, such as "lay(0, -1, 7)". */
    void callAs(String written) {
        int open = written.indexOf('(');
        String inside = written.substring(open + 1, written.length() - 1).trim();
        int[] numbers = inside.isEmpty() ? new int[0]
            : Arrays.stream(inside.split(",")).mapToInt(word -> Integer.parseInt(word.trim())).toArray();
        call(written.substring(0, open), numbers);
    }

    /** Behind the 512th call none is made, for nothing is promised of it. */
    void call(String name, int... arguments) {
        if (isSpent()) {
            return;
        }
        Object[] boxed = Arrays.stream(arguments).boxed().toArray();
        made++;
        story.append("\n  ").append(made).append(' ').append(name).append(Arrays.toString(arguments));
        long got = answer(OURS.get(name), x, boxed);
        long due = answer(DUE.get(name), model, boxed);
        if (got != due) {
            wrong++;
            story.append(" answered ").append(got).append(", due is ").append(due);
        }
    }

    private static long answer(Method method, Object on, Object[] arguments) {
        try {
            return ((Number) method.invoke(on, arguments)).longValue();
        } catch (ReflectiveOperationException e) {
            throw new IllegalStateException(method.getName() + Arrays.toString(arguments), e);
        }
    }

    /** All that is told, by five calls. */
    void compare() {
        call("asked");
        call("upper");
        call("lower");
        call("finding");
        call("digest");
    }

    void write(int t, String signs) {
        call("text", t, signs.length());
        for (int i = 0; i < signs.length(); i++) {
            if (signs.charAt(i) != ' ') {
                call("put", t, i, signs.charAt(i));
            }
        }
    }

    void lay(int r, int... values) {
        call("row", r, values.length);
        for (int i = 0; i < values.length; i++) {
            call("lay", r, i, values[i]);
        }
    }

    int made() {
        return made;
    }

    boolean isSpent() {
        return made >= CALLS;
    }

    boolean isWrong() {
        return wrong > 0;
    }

    /** Tells the whole story of a run, if an answer in it was wrong. */
    void end(String run) {
        Check.due(run + (isWrong() ? story : ""), wrong, 0);
    }
}
