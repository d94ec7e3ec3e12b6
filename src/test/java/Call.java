import java.lang.reflect.Method;
import java.util.HashMap;
import java.util.Map;

/** A call as the document writes it, such as "sets(0, 7, 3)". */
final class Call {
    private static final Map<String, Method> METHODS = new HashMap<>();

    static {
        for (Method m : ZoneGuard.class.getMethods()) {
            METHODS.put(m.getName(), m);
        }
    }

    private final String text;
    private final Method method;
    private final Object[] arguments;

    private Call(String text, Method method, Object[] arguments) {
        this.text = text;
        this.method = method;
        this.arguments = arguments;
    }

    static Call written(String text) {
        String name = text.substring(0, text.indexOf('(')).trim();
        String inside = text.substring(text.indexOf('(') + 1, text.lastIndexOf(')')).trim();
        String[] words = inside.isEmpty() ? new String[0] : inside.split(",");
        Object[] arguments = new Object[words.length];
        for (int k = 0; k < words.length; k++) {
            arguments[k] = Integer.valueOf(words[k].trim());
        }
        return new Call(text.trim(), METHODS.get(name), arguments);
    }

    static Call of(String name, int... numbers) {
        StringBuilder text = new StringBuilder(name).append('(');
        Object[] arguments = new Object[numbers.length];
        for (int k = 0; k < numbers.length; k++) {
            text.append(k == 0 ? "" : ", ").append(numbers[k]);
            arguments[k] = numbers[k];
        }
        return new Call(text.append(')').toString(), METHODS.get(name), arguments);
    }

    boolean isOf(String name) {
        return method.getName().equals(name);
    }

    int argument(int k) {
        return (Integer) arguments[k];
    }

    long on(ZoneGuard guard) throws ReflectiveOperationException {
        return ((Number) method.invoke(guard, arguments)).longValue();
    }

    @Override
    public String toString() {
        return text;
    }
}
