import java.lang.reflect.Method;
import java.util.Arrays;
import java.util.HashMap;
import java.util.Map;

/** The document's calls by their names, so that tests can draw them or write them in tables. */
final class Face {
    static final int BAD = -1;
    static final int NOT = -2;
    static final int FULL = -3;
    static final int LOW = Integer.MIN_VALUE;
    static final int HIGH = Integer.MAX_VALUE;
    static final int MOST_CALLS = 512;

    private static final Map<Class<?>, Map<String, Method>> KNOWN = new HashMap<>();

    private Face() {
    }

    /** Asks a PaintBox or a PlainBox: both have each call once, under one name. */
    static int ask(Object box, String call, int... told) {
        Method method = KNOWN.computeIfAbsent(box.getClass(), Face::callsOf).get(call);
        if (method == null) {
            throw new IllegalStateException("no call " + call);
        }
        try {
            return (Integer) method.invoke(box, Arrays.stream(told).boxed().toArray());
        } catch (ReflectiveOperationException e) {
            throw new IllegalStateException(call + Arrays.toString(told), e);
        }
    }

    private static Map<String, Method> callsOf(Class<?> box) {
        Map<String, Method> calls = new HashMap<>();
        for (Method method : box.getDeclaredMethods()) {
            calls.put(method.getName(), method);
        }
        return calls;
    }
}
