import java.lang.reflect.InvocationTargetException;
import java.lang.reflect.Method;
import java.util.HashMap;
import java.util.Map;
import java.util.NoSuchElementException;

/** An object whose calls are made by their names, and counted: what it answers behind the 512th is free. */
final class Caller {
    static final int MOST_CALLS = 512;
    static final long THROWN = Long.MIN_VALUE;
    private static final Map<String, Method> FACE = new HashMap<>();

    static {
        for (Method one : UnlikeBoats.class.getMethods()) {
            if (one.getDeclaringClass() == UnlikeBoats.class) FACE.put(one.getName(), one);
        }
    }

    private final UnlikeBoats x = new UnlikeBoats();
    private int calls = 0;

    static boolean isCall(String name, int args) {
        Method method = FACE.get(name);
        return method != null && method.getParameterCount() == args;
    }

    static boolean answersBoolean(String name) {
        return FACE.get(name).getReturnType() == boolean.class;
    }

    int calls() {
        return calls;
    }

    /** What a call answers: a boolean as 1 or 0, THROWN for the one exception that the document names. */
    long make(String name, long... args) {
        calls++;
        Method method = FACE.get(name);
        Object[] given = new Object[args.length];
        for (int i = 0; i < args.length; i++) {
            boolean wide = method.getParameterTypes()[i] == long.class;
            given[i] = wide ? (Object) args[i] : (Object) (int) args[i];
        }
        try {
            Object answer = method.invoke(x, given);
            if (answer instanceof Boolean) return (Boolean) answer ? 1 : 0;
            return (Integer) answer;
        } catch (InvocationTargetException e) {
            boolean named = name.equals("told") && e.getCause().getClass() == NoSuchElementException.class;
            if (named) return THROWN;
            throw new IllegalStateException(name + " threw what it may not", e.getCause());
        } catch (IllegalAccessException e) {
            throw new IllegalStateException(name + " is not public", e);
        }
    }
}
