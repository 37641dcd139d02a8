import java.lang.reflect.Method;
import java.lang.reflect.Modifier;
import java.util.HashMap;
import java.util.Map;

/** An object, or the model of one, that is called by texts such as "step(0, 0, 0, 2, 1, NONE)". */
final class Asked {
    /** What an object answers behind so many calls is free, so no test may lean on it. */
    static final int MOST_CALLS = 512;

    private final Object target;
    private final Map<String, Method> methods = new HashMap<>();
    private int calls = 0;

    Asked() {
        this(new NameRows());
    }

    Asked(Object target) {
        this.target = target;
        for (Method method : target.getClass().getDeclaredMethods()) {
            if (Modifier.isPublic(method.getModifiers())) {
                methods.put(method.getName(), method);
            }
        }
    }

    int call(String text) {
        calls++;
        if (calls > MOST_CALLS) {
            throw new IllegalStateException("one call too many for the test: " + text);
        }
        int open = text.indexOf('(');
        Method method = methods.get(text.substring(0, open));
        String inside = text.substring(open + 1, text.length() - 1).trim();
        String[] given = inside.isEmpty() ? new String[0] : inside.split(", *");
        Object[] values = new Object[given.length];
        for (int i = 0; i < given.length; i++) {
            values[i] = valueOf(given[i]);
        }
        try {
            return (Integer) method.invoke(target, values);
        } catch (ReflectiveOperationException e) {
            throw new IllegalStateException("a call that threw: " + text, e);
        }
    }

    private static Object valueOf(String text) {
        switch (text) {
            case "true": return true;
            case "false": return false;
            case "NONE": return NameRows.NONE;
            case "MIN": return Integer.MIN_VALUE;
            case "MAX": return Integer.MAX_VALUE;
            default: return Integer.valueOf(text);
        }
    }
}
