import java.lang.reflect.InvocationTargetException;
import java.lang.reflect.Method;
import java.util.HashMap;
import java.util.Map;

/** Calls of BaubleHill by their names. */
final class Calls {
    /** No call of the face answers this. */
    static final long THROWN = Long.MIN_VALUE;
    private static final Map<String, Method> METHODS = new HashMap<>();

    static {
        for (Method method : BaubleHill.class.getMethods()) METHODS.put(method.getName(), method);
    }

    private Calls() {
    }

    /** What a call answers; THROWN, with a line that says what, if it throws. */
    static long answer(BaubleHill hill, String name, Object[] numbers) {
        try {
            return ((Number) METHODS.get(name).invoke(hill, numbers)).longValue();
        } catch (InvocationTargetException | IllegalAccessException e) {
            System.out.println(name + " throws " + e.getCause());
            return THROWN;
        }
    }
}
