import java.lang.reflect.InvocationTargetException;
import java.lang.reflect.Method;

/**
 * A run of calls on one new object, written as the document writes its examples:
 * "rule(0, 1) = 1; sets(0, 7, 3) = 15".
 */
final class Run {
    private static int checked = 0;
    private static int wrong = 0;

    private final String name;
    private final ZoneGuard guard = new ZoneGuard();

    Run(String name) {
        this.name = name;
    }

    /** Makes the calls and compares every answer with the one behind its '='. */
    Run does(String calls) {
        for (String call : calls.split(";")) {
            String[] sides = call.split("=");
            check(sides[0].trim(), call(sides[0].trim()), Long.parseLong(sides[1].trim()));
        }
        return this;
    }

    /** Makes the calls n times. */
    Run repeats(int n, String calls) {
        for (int k = 0; k < n; k++) {
            does(calls);
        }
        return this;
    }

    /** Makes a text the only one, without looking at the answers. */
    Run types(String text) {
        guard.clear();
        for (char c : text.toCharArray()) {
            guard.type(c);
        }
        return this;
    }

    /** Reads a text and compares the answer of reads(). */
    Run reads(String text, int due) {
        types(text);
        check("reads() of \"" + text + "\"", guard.reads(), due);
        return this;
    }

    /** Compares the ten numbers and the hits of a rule. */
    Run hasRule(int r, int... due) {
        for (int what = 0; what < due.length; what++) {
            check("of(" + r + ", " + what + ")", guard.of(r, what), due[what]);
        }
        return this;
    }

    /** Makes calls that must fail with this error, and looks that only the counts of told change. */
    Run fails(int code, String calls) {
        for (String call : calls.split(";")) {
            String before = seen();
            int[] told = told();
            check(call.trim(), call(call.trim()), code);
            check(call.trim() + " changes nothing", seen().equals(before) ? 1 : 0, 1);
            for (int what = 0; what < 3; what++) {
                check(call.trim() + ", then told(" + what + ")", guard.told(what), told[what] + (what == -2 - code ? 1 : 0));
            }
        }
        return this;
    }

    private int[] told() {
        return new int[] {guard.told(0), guard.told(1), guard.told(2)};
    }

    /** All that can be asked without changing anything, but for the counts of errors. */
    private String seen() {
        StringBuilder s = new StringBuilder();
        s.append(guard.told(3)).append(' ').append(guard.told(4));
        for (int what = 0; what < 10; what++) {
            s.append(' ').append(guard.count(what));
        }
        for (int a = 0; a < 32; a++) {
            s.append(' ').append(guard.zoneOf(a));
        }
        for (int r = 0; r < guard.count(0); r++) {
            for (int what = 0; what <= 10; what++) {
                s.append(' ').append(guard.of(r, what));
            }
        }
        for (int i = 0; i < guard.count(1); i++) {
            for (int what = 0; what <= 6; what++) {
                s.append(' ').append(guard.flow(i, what));
            }
        }
        for (int what = 0; what <= 6; what++) {
            s.append(' ').append(guard.change(what));
        }
        return s.toString();
    }

    private long call(String call) {
        String method = call.substring(0, call.indexOf('('));
        String inside = call.substring(call.indexOf('(') + 1, call.lastIndexOf(')')).trim();
        String[] words = inside.isEmpty() ? new String[0] : inside.split(",");
        Class<?>[] types = new Class<?>[words.length];
        Object[] arguments = new Object[words.length];
        for (int k = 0; k < words.length; k++) {
            types[k] = int.class;
            arguments[k] = Integer.valueOf(words[k].trim());
        }
        try {
            Method m = ZoneGuard.class.getMethod(method, types);
            return ((Number) m.invoke(guard, arguments)).longValue();
        } catch (NoSuchMethodException | IllegalAccessException | InvocationTargetException e) {
            System.out.println(name + ": " + call + " could not be made: " + e + ", " + e.getCause());
            wrong++;
            return Long.MIN_VALUE;
        }
    }

    private void check(String what, long got, long due) {
        same(name + ": " + what, got, due);
    }

    static void same(String what, long got, long due) {
        checked++;
        if (got != due) {
            wrong++;
            System.out.println(what + " answered " + got + ", due is " + due);
        }
    }

    /** Says how the test ended; exit code 1 if an answer was wrong. */
    static void end() {
        System.out.println(checked + " answers, " + wrong + " of them wrong");
        if (wrong != 0 || checked == 0) {
            System.exit(1);
        }
    }
}
