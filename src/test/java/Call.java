import java.lang.reflect.Method;
import java.util.Arrays;

/** A call as it is written, such as "lay(0, -1, MAX)"; MAX and MIN are the largest and the least int. */
final class Call {
    private static final Method[] FACE = RiverDays.class.getDeclaredMethods();

    private Call() {
    }

    static long on(RiverDays x, String call) {
        String name = call.substring(0, call.indexOf('('));
        String inside = call.substring(name.length() + 1, call.length() - 1).trim();
        Object[] numbers = inside.isEmpty() ? new Object[0]
            : Arrays.stream(inside.split(",")).map(word -> number(word.trim())).toArray();
        Method method = Arrays.stream(FACE).filter(m -> m.getName().equals(name)).findFirst().orElseThrow();
        try {
            return ((Number) method.invoke(x, numbers)).longValue();
        } catch (ReflectiveOperationException e) {
            throw new IllegalStateException(call, e);
        }
    }

    static void due(RiverDays x, String call, long want) {
        Check.due(call, on(x, call), want);
    }

    private static Integer number(String word) {
        switch (word) {
            case "MAX": return Integer.MAX_VALUE;
            case "MIN": return Integer.MIN_VALUE;
            default: return Integer.valueOf(word);
        }
    }
}
