import java.util.List;

/** An object under test. It counts its calls, because nothing is promised after the 512th. */
final class Subject {
    private static final int PROMISED_CALLS = 512;

    private final ZoneGuard guard = new ZoneGuard();
    private int calls = 0;

    Subject() {
    }

    /** A new object that has made these calls. */
    Subject(List<Call> past) {
        for (Call call : past) {
            makes(call);
        }
    }

    long makes(Call call) {
        calls++;
        if (calls > PROMISED_CALLS) {
            Run.same("calls of one object up to " + call, calls, PROMISED_CALLS);
        }
        try {
            return call.on(guard);
        } catch (ReflectiveOperationException e) {
            Run.same(call + " could not be made, " + e + ", " + e.getCause(), 0, 1);
            return Long.MIN_VALUE;
        }
    }

    long makes(String name, int... arguments) {
        return makes(Call.of(name, arguments));
    }
}
