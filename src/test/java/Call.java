import java.lang.reflect.Method;
import java.lang.reflect.Modifier;
import java.util.ArrayList;
import java.util.List;
import java.util.Map;
import java.util.TreeMap;
import java.util.function.IntSupplier;

/** A call as the document writes it, such as "sets(0, 7, 3)". */
final class Call {
    /** By name and in the order of names, so that a chosen number always means the same method. */
    private static final Map<String, Method> METHODS = new TreeMap<>();

    static {
        for (Method m : ZoneGuard.class.getDeclaredMethods()) {
            if (Modifier.isPublic(m.getModifiers())) {
                METHODS.put(m.getName(), m);
            }
        }
    }

    private final String text;
    private final Method method;
    private final Object[] arguments;

    private Call(String text, Method method, Object[] arguments) {
        this.text = text;
        this.method = method;
        this.arguments = arguments;
    }

    static Call written(String text) {
        String name = text.substring(0, text.indexOf('(')).trim();
        String inside = text.substring(text.indexOf('(') + 1, text.lastIndexOf(')')).trim();
        String[] words = inside.isEmpty() ? new String[0] : inside.split(",");
        Object[] arguments = new Object[words.length];
        for (int k = 0; k < words.length; k++) {
            arguments[k] = Integer.valueOf(words[k].trim());
        }
        return new Call(text.trim(), METHODS.get(name), arguments);
    }

    static Call of(String name, int... numbers) {
        StringBuilder text = new StringBuilder(name).append('(');
        Object[] arguments = new Object[numbers.length];
        for (int k = 0; k < numbers.length; k++) {
            text.append(k == 0 ? "" : ", ").append(numbers[k]);
            arguments[k] = numbers[k];
        }
        return new Call(text.append(')').toString(), METHODS.get(name), arguments);
    }

    /** How many methods the class has. */
    static int methods() {
        return METHODS.size();
    }

    /** A call of the method with this number, with arguments that the caller chooses. */
    static Call anyOf(int number, IntSupplier arguments) {
        List<String> names = new ArrayList<>(METHODS.keySet());
        int[] numbers = new int[METHODS.get(names.get(number)).getParameterCount()];
        for (int k = 0; k < numbers.length; k++) {
            numbers[k] = arguments.getAsInt();
        }
        return of(names.get(number), numbers);
    }

    boolean isOf(String name) {
        return method.getName().equals(name);
    }

    int argument(int k) {
        return (Integer) arguments[k];
    }

    long on(ZoneGuard guard) throws ReflectiveOperationException {
        return ((Number) method.invoke(guard, arguments)).longValue();
    }

    @Override
    public String toString() {
        return text;
    }
}
