import java.lang.reflect.InvocationTargetException;
import java.lang.reflect.Method;
import java.util.Arrays;
import java.util.HashMap;
import java.util.Map;

/** Calls by their names, on HalfASize or on Plain. */
final class Calls {
    private static final Map<Class<?>, Map<String, Method>> KNOWN = new HashMap<>();

    private Calls() {
    }

    /** What a call written as "name(1, 2)" answers. */
    static long answer(Object of, String call) {
        int open = call.indexOf('(');
        String inside = call.substring(open + 1, call.length() - 1);
        String[] parts = inside.isEmpty() ? new String[0] : inside.split(", ");
        int[] a = new int[parts.length];
        for (int i = 0; i < a.length; i++) {
            a[i] = Integer.parseInt(parts[i]);
        }
        return answer(of, call.substring(0, open), a);
    }

    static long answer(Object of, String name, int... a) {
        Object[] boxed = new Object[a.length];
        for (int i = 0; i < a.length; i++) {
            boxed[i] = a[i];
        }
        try {
            return ((Number) method(of.getClass(), name, a.length).invoke(of, boxed)).longValue();
        } catch (InvocationTargetException e) {
            throw new IllegalStateException(name + Arrays.toString(a) + " threw", e.getCause());
        } catch (IllegalAccessException e) {
            throw new IllegalStateException(e);
        }
    }

    private static Method method(Class<?> of, String name, int parameters) {
        Map<String, Method> methods = KNOWN.computeIfAbsent(of, c -> new HashMap<>());
        return methods.computeIfAbsent(name + "/" + parameters, key -> found(of, name, parameters));
    }

    private static Method found(Class<?> of, String name, int parameters) {
        Class<?>[] ints = new Class<?>[parameters];
        Arrays.fill(ints, int.class);
        try {
            return of.getDeclaredMethod(name, ints);
        } catch (NoSuchMethodException e) {
            throw new IllegalArgumentException("no such call: " + name + " of " + parameters, e);
        }
    }
}
