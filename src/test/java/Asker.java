import java.lang.reflect.Method;
import java.util.HashMap;
import java.util.Map;

/** Asks an object of the class by the name of a call, as PlainTown is asked. */
final class Asker {
    private static final Map<String, Method> METHODS = new HashMap<>();

    static {
        for (Method m : GlacierStreets.class.getDeclaredMethods()) {
            METHODS.put(m.getName(), m);
        }
    }

    private Asker() {
    }

    static long ask(GlacierStreets x, String name, long[] args) throws ReflectiveOperationException {
        Method m = METHODS.get(name);
        Object[] given = new Object[args.length];
        for (int k = 0; k < args.length; k++) {
            if (m.getParameterTypes()[k] == long.class) {
                given[k] = args[k];
            } else {
                given[k] = (int) args[k];
            }
        }
        return ((Number) m.invoke(x, given)).longValue();
    }
}
