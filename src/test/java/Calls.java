import java.lang.reflect.InvocationTargetException;
import java.lang.reflect.Method;
import java.util.Arrays;
import java.util.HashMap;
import java.util.Map;
import java.util.stream.Collectors;

/** Calls by name, so that FountainDesk and PlainDesk can be asked the same. */
final class Calls {
    private static final Map<String, Method> METHODS = new HashMap<>();

    private Calls() {
    }

    /** The answer as a text: "null" of a void method, "throws.E" if the call throws E. */
    static String answer(Object desk, String method, Object... args) {
        try {
            return String.valueOf(methodOf(desk.getClass(), method).invoke(desk, args));
        } catch (InvocationTargetException e) {
            return "throws." + e.getCause().getClass().getSimpleName();
        } catch (IllegalAccessException e) {
            throw new AssertionError(e);
        }
    }

    static String text(String method, Object... args) {
        return method + Arrays.stream(args).map(String::valueOf).collect(Collectors.joining(", ", "(", ")"));
    }

    private static Method methodOf(Class<?> type, String name) {
        return METHODS.computeIfAbsent(type.getName() + "." + name, key -> {
            for (Method one : type.getDeclaredMethods()) {
                if (one.getName().equals(name)) {
                    return one;
                }
            }
            throw new AssertionError(key);
        });
    }
}
