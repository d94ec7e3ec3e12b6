import java.math.BigInteger;
import java.util.ArrayList;
import java.util.List;

/**
 * The boundary cases that the document names about states and errors: its heads 'States' and
 * 'Error codes', and the promises 27 to 29. Each run bears the sentence that it holds.
 */
public final class StatesEdgesTest {
    private static final int BAD = -2, NO = -3, FULL = -4;

    /**
     * Calls that bring something of everything into the state: zones, rules with hits, other
     * kept rules, flows in several stages, announcements, spans, time, letters of each kind.
     */
    private static final String SOME = "zone(2, 3, 9) = 7; rule(0, 1) = 1; rule(1, 2) = 2; sets(0, 7, 9) = 15; keeps() = 2; sets(1, 8, 1) = 2;"
            + "span(3, 50) = 40;"
            + "letter(3, 5, 2, 0, 0) = 1; letter(5, 3, 2, 0, 1) = 1; letter(3, 5, 2, 0, 2) = 1; letter(1, 2, 3, 1, 2) = 1;"
            + "letter(7, 7, 7, 0, 0) = 1; ticks(2) = 3;"
            + "letter(0, 0, 12, 1, 2) = 2; letter(0, 0, 12, 0, 0) = 0; letter(0, 0, 0, 0, 4) = 3; announces(0, 0, 9) = 1; announces(0, 1, 8) = 2;"
            + "ticks(3) = 2;"
            + "type(100) = 1; type(101) = 2; type(110) = 3; type(121) = 4; type(59) = 5; back() = 4;";

    public static void main(String[] args) {
        backNone();
        backToFirst();
        fiveStates();
        olderOnesAreLost();
        ringGoesOnWrapping();
        remembersWithoutChange();
        failedCallsRemember();
        askingRemembersNothing();
        everythingComesBack();
        partsComeBack();
        textStays();
        toldStays();
        toldArguments();
        toldEveryBad();
        toldEveryNo();
        toldEveryFull();
        noneIsNoError();
        errorsInOrder();
        manyErrors();
        digestOfNew();
        digestOfFull();
        digestParts();
        lastCall();
        Run.end();
    }

    // ---- promise 27

    private static void backNone() {
        new Run("Promise 27: 'NO if there is none', a new object").fails(NO, "back(); back()").does("told(1) = 2; told(4) = 0; rule(0, 1) = 1;"
                + "back() = 0; count(0) = 0").fails(NO, "back()").does("told(1) = 3");
        new Run("Promise 27: 'NO if there is none', failed calls leave none").does("rule(9, 9) = -2; zone(9, 9, 9) = -2; told(4) = 0")
                .fails(NO, "back()");
    }

    private static void backToFirst() {
        new Run("Promise 27: 'Returns how many states are still remembered'").does("ticks(1) = 0; ticks(2) = 0; ticks(3) = 0; told(4) = 3;"
                + "back() = 2; count(3) = 3; told(4) = 2; back() = 1; count(3) = 1; back() = 0; count(3) = 0; told(4) = 0")
                .fails(NO, "back()");
        new Run("Promise 27: 'which is not remembered any more then'").does("ticks(1) = 0; ticks(2) = 0; back() = 1; ticks(4) = 0; count(3) = 5;"
                + "told(4) = 2; back() = 1; count(3) = 1; back() = 0; count(3) = 0; back() = -3");
    }

    private static void fiveStates() {
        new Run("States: 'At most 5 states are remembered', four").does("ticks(1) = 0; ticks(1) = 0; ticks(1) = 0; ticks(1) = 0; told(4) = 4;"
                + "back() = 3; back() = 2; back() = 1; back() = 0; count(3) = 0; back() = -3");
        new Run("States: 'At most 5 states are remembered', five").does("ticks(1) = 0; ticks(1) = 0; ticks(1) = 0; ticks(1) = 0; ticks(1) = 0;"
                + "told(4) = 5; back() = 4; back() = 3; back() = 2; back() = 1; back() = 0; count(3) = 0; back() = -3");
        new Run("States: 'At most 5 states are remembered', six").does("ticks(1) = 0; ticks(1) = 0; ticks(1) = 0; ticks(1) = 0; ticks(1) = 0;"
                + "ticks(1) = 0; told(4) = 5; back() = 4; count(3) = 5; back() = 3; back() = 2; back() = 1; back() = 0;"
                + "count(3) = 1; back() = -3; count(3) = 1");
    }

    private static void olderOnesAreLost() {
        for (int n = 6; n <= 17; n++) {
            Run run = new Run("States: 'older ones are lost', " + n + " calls");
            for (int k = 1; k <= n; k++) {
                run.does("ticks(" + k + ") = 0; told(4) = " + Math.min(k, 5));
            }
            for (int left = 4; left >= 0; left--) {
                int ticked = n - 5 + left;
                run.does("back() = " + left + "; count(3) = " + ticked * (ticked + 1) / 2);
            }
            run.fails(NO, "back()");
        }
    }

    private static void ringGoesOnWrapping() {
        Run run = new Run("States: four remembered, three taken back, again and again");
        int time = 0;
        for (int k = 0; k < 40; k++) {
            run.does("ticks(1) = 0; ticks(2) = 0; ticks(3) = 0; ticks(4) = 0; count(3) = " + (time + 10));
            int left = k == 0 ? 4 : 5;
            run.does("back() = " + (left - 1) + "; back() = " + (left - 2) + "; back() = " + (left - 3) + "; count(3) = " + (time + 1));
            time++;
        }
    }

    private static void remembersWithoutChange() {
        for (String call : new String[] {"zone(0, 0, 31) = 0", "sets(0, 9, 1) = 1", "moves(0, 0) = 0", "keeps() = 1", "takes() = 1", "letter(1, 2, 3, 0, 1) = 3", "span(1, 5) = 5", "cuts() = 0", "reads() = 1"}) {
            Run run = new Run("States: 'remembers the state before it, also if it changes nothing', " + call).types("allow;")
                    .does("rule(0, 1) = 1; keeps() = 1; told(4) = 2");
            run.undoes(call).does(call + "; told(4) = 3; back() = 2");
        }
        // these cannot leave everything as it was
        for (String call : new String[] {"rule(0, 0) = 2", "drops(0) = 0", "ticks(1) = 0", "letter(1, 2, 3, 0, 0) = 1"}) {
            new Run("States: 'Each successful call of .. remembers the state before it', " + call).does("rule(0, 1) = 1; told(4) = 1").undoes(call)
                    .does(call + "; told(4) = 2; back() = 1; count(0) = 1; count(3) = 0; count(4) = 0");
        }
    }

    private static void failedCallsRemember() {
        Run run = new Run("States: only a 'successful call' remembers").does(SOME + "told(4) = 4");
        run.fails(BAD, "zone(6, 0, 0); rule(0, 3); sets(0, 10, 0); drops(2); moves(0, 2); letter(0, 0, 0, 0, 5); announces(0, 2, 0); ticks(0);"
                + "span(8, 1)");
        run.fails(NO, "announces(1, 0, 0)").does("told(4) = 4");
    }

    private static void askingRemembersNothing() {
        new Run("States: the other methods ask, and change and remember nothing").does(SOME)
                .asks("zoneOf(3) = 2; of(0, 10) = 3; decides(3, 5, 2, 0) = 0; cases(1, 0) = 6144; idle(0, 0) = 0; idle(0, 1) = 0;"
                + "contradicts(0, 1) = 10240; change(0) = 6144; change(1) = 0; all(2) = 6144; flow(0, 4) = 3; flow(9, 0) = -1; count(3) = 2;"
                + "told(3) = 5; told(4) = 4");
        new Run("States: type and clear remember nothing").does("rule(0, 1) = 1; type(1) = 1; told(4) = 1; clear() = 1; told(4) = 1; back() = 0;"
                + "back() = -3");
        new Run("States: digest remembers and changes nothing").does("rule(0, 1) = 1; told(4) = 1").asks("digest() = " + digestOf("rule(0, 1)"));
    }

    private static void everythingComesBack() {
        new Run("Promise 27: 'Makes everything as it was in the latest remembered state'").does(SOME).undoes("zone(5, 0, 31) = 32; rule(1, 0) = 3;"
                + "sets(0, 2, 9) = 0; drops(0) = 1; moves(0, 1) = 0; keeps() = 2; takes() = 2;"
                + "letter(3, 5, 2, 0, 3) = 1; letter(3, 5, 2, 0, 4) = 1; letter(20, 21, 0, 0, 0) = 1; letter(20, 21, 15, 0, 0) = 0;"
                + "letter(20, 21, 15, 1, 2) = 2; letter(5, 3, 9, 0, 0) = 1; letter(5, 3, 9, 0, 1) = 3;"
                + "announces(0, 1, 15) = 3; ticks(1) = 3; ticks(8) = 1; ticks(100) = 0; span(1, 100) = 5; span(7, 1) = 20; cuts() = 0; reads() = 1");
        new Run("Promise 27: cuts comes back").does(SOME + "back() = 3; drops(0) = 1").undoes("cuts() = 3");
    }

    private static void partsComeBack() {
        new Run("States: 'zones, rules with hits, kept rules, flows, announcements, spans, the time, and the counts 4 to 9', two steps")
                .does("rule(0, 1) = 1; keeps() = 1; letter(3, 5, 2, 1, 2) = 1; letter(5, 3, 2, 1, 2) = 1; announces(0, 0, 9) = 1;"
                + "zone(1, 0, 0) = 1; ticks(20) = 0; count(2) = 0; count(9) = 1; back() = 4; count(1) = 1; count(2) = 1; count(9) = 0; count(3) = 0;"
                + "flow(0, 4) = 7; zoneOf(0) = 1; back() = 3; zoneOf(0) = 0; back() = 2; count(2) = 0;"
                + "flow(0, 4) = 7; back() = 1; flow(0, 4) = 6; count(4) = 1; of(0, 10) = 1; back() = 0; count(1) = 0; count(4) = 0; of(0, 10) = 0;"
                + "change(0) = 0; back() = -3");
        // a full table comes back from an empty one
        Run full = new Run("Promise 27: full lists come back");
        for (int r = 0; r < 12; r++) {
            full.does("rule(" + r + ", 1) = " + (r + 1));
        }
        for (int goal = 1; goal <= 8; goal++) {
            full.does("letter(0, " + goal + ", 0, 1, 2) = 1; letter(" + goal + ", 0, 0, 1, 2) = 1");
        }
        full.does("announces(0, 0, 1) = 1; announces(0, 0, 2) = 2; announces(0, 0, 3) = 3; announces(0, 0, 4) = 4; announces(0, 0, 5) = 5;"
                + "announces(0, 0, 6) = 6; back() = 4; announces(0, 0, 6) = 6; back() = 4");
        full.undoes("ticks(100) = 0; reads() = 0; takes() = 0; letter(0, 20, 0, 0, 0) = 4; announces(7, 1, 15) = 6; cuts() = 0");
    }

    private static void textStays() {
        new Run("Promise 27: 'The text .. stay', empty").does("type(100) = 1; rule(0, 1) = 1; clear() = 1; back() = 0; told(3) = 0; type(100) = 1");
        new Run("Promise 27: 'The text .. stay', longer").does("rule(0, 1) = 1").types("deny;").does("back() = 0; told(3) = 5; reads() = 1;"
                + "of(0, 9) = 0");
        new Run("Promise 27: 'The text .. stay', full").does("rule(0, 1) = 1").types(" ".repeat(120)).does("back() = 0; told(3) = 120")
                .fails(FULL, "type(32)");
    }

    private static void toldStays() {
        new Run("Promise 27: 'the counts of told, except the number of remembered states, stay'").does("rule(0, 1) = 1; letter(3, 5, 2, 0, 0) = 1;"
                + "rule(0, 9) = -2; rule(0, 9) = -2; announces(0, 0, 0) = -3; told(4) = 2; back() = 1; told(0) = 2;"
                + "told(1) = 1; told(2) = 0; told(4) = 1; back() = 0; told(0) = 2; told(1) = 1; told(4) = 0; back() = -3; told(1) = 2");
        Run full = new Run("Promise 27: the count of FULL stays");
        for (int n = 1; n <= 12; n++) {
            full.does("rule(0, 1) = " + n);
        }
        full.does("rule(0, 1) = -4; back() = 4; told(2) = 1; rule(0, 1) = 12; rule(0, 1) = -4; told(2) = 2");
    }

    // ---- promise 28 and the error codes

    private static void toldArguments() {
        new Run("Promise 28: 'what: .. 0 BAD, 1 NO, 2 FULL; 3 the length of the text; 4 remembered states'").each("told(0) = 0; told(4) = 0")
                .beyond("told(#)", 0, 4).does("told(0) = 4; told(1) = 0; told(2) = 0; told(3) = 0; told(4) = 0");
    }

    private static void toldEveryBad() {
        String[] calls = {"zone(-1, 0, 0)", "zoneOf(32)", "rule(1, 0)", "sets(0, 0, 0)", "drops(0)", "moves(0, 0)", "of(0, 0)", "decides(32, 0, 0, 0)", "cases(0, 0)", "idle(0, 0)", "contradicts(0, 1)", "change(7)", "all(3)",
            "letter(0, 0, 0, 0, 5)", "announces(0, 0, 0)", "ticks(0)", "span(0, 1)", "flow(-1, 0)", "count(10)", "type(128)", "told(5)"};
        Run run = new Run("Error codes: 'each of these results of any method counts', BAD of every method that has it");
        for (int k = 0; k < calls.length; k++) {
            run.fails(BAD, calls[k]).does("told(0) = " + (k + 1));
        }
        run.does("told(1) = 0; told(2) = 0; told(4) = 0");
    }

    private static void toldEveryNo() {
        new Run("Error codes: 'each of these results of any method counts', NO of announces and back")
                .does("back() = -3; told(1) = 1; rule(0, 1) = 1; letter(1, 2, 3, 0, 0) = 1; announces(0, 0, 0) = -3; told(1) = 2; told(0) = 0;"
                + "told(2) = 0");
    }

    private static void toldEveryFull() {
        Run run = new Run("Error codes: 'each of these results of any method counts', FULL of rule, announces and type");
        for (int n = 1; n <= 12; n++) {
            run.does("rule(0, 1) = " + n);
        }
        run.does("rule(0, 1) = -4; told(2) = 1; letter(1, 2, 3, 1, 2) = 1; letter(2, 1, 3, 1, 2) = 1");
        for (int n = 1; n <= 6; n++) {
            run.does("announces(0, 0, 0) = " + n);
        }
        run.does("announces(0, 0, 0) = -4; told(2) = 2").types("x".repeat(120)).does("type(0) = -4; told(2) = 3; told(0) = 0; told(1) = 0");
    }

    private static void noneIsNoError() {
        new Run("Error codes: 'NONE (-1) is not an error'").asks("decides(0, 0, 0, 0) = -1; change(1) = -1; change(6) = -1; flow(0, 0) = -1;"
                + "flow(0, 6) = -1").does("told(0) = 0; told(1) = 0; told(2) = 0");
        new Run("Error codes: NONE 'is returned only if no error applies'").fails(BAD, "decides(0, 0, 16, 0); change(-1); flow(0, 7); flow(-1, 6);"
                + "flow(5, -1)").does("told(0) = 5");
    }

    private static void errorsInOrder() {
        Run run = new Run("Error codes: 'They are checked in this order', BAD before FULL");
        for (int n = 1; n <= 12; n++) {
            run.does("rule(0, 1) = " + n);
        }
        run.fails(BAD, "rule(13, 1); rule(-1, 1); rule(0, 3); rule(0, -1)").fails(FULL, "rule(12, 2); rule(0, 0)").types(" ".repeat(120))
                .fails(BAD, "type(128); type(-1)").fails(FULL, "type(127)")
                .does("told(0) = 6; told(2) = 3; told(1) = 0");
    }

    private static void manyErrors() {
        new Run("Promise 28: 'how often a method returned' it, as often as 512 calls allow").repeats(511, "told(-1) = -2").does("told(0) = 511");
        new Run("Promise 28: 'how often a method returned' NO").repeats(511, "back() = -3").does("told(1) = 511");
    }

    // ---- promise 29

    /** The hash of these numbers, worked out without a bound and cut to 64 bits only at the end. */
    private static long hash(List<Long> values) {
        BigInteger h = BigInteger.valueOf(2573);
        for (long v : values) {
            h = h.multiply(BigInteger.valueOf(31)).add(BigInteger.valueOf(v));
        }
        return h.longValue();
    }

    /** The hash that is due after some calls, worked out from the answers of the other methods. */
    private static long digestOf(String calls) {
        List<Call> past = new ArrayList<>();
        for (String call : calls.split(";")) {
            if (!call.isBlank()) {
                past.add(Call.written(call.split("=")[0]));
            }
        }
        List<Long> values = new ArrayList<>();
        Subject s = new Subject(past);
        for (int what = 0; what <= 4; what++) {
            values.add(s.makes("told", what));
        }
        for (int what = 0; what <= 9; what++) {
            values.add(s.makes("count", what));
        }
        for (int a = 0; a <= 31; a++) {
            values.add(s.makes("zoneOf", a));
        }
        for (int r = 0; r < values.get(5); r++) {
            for (int what = 0; what <= 10; what++) {
                values.add(s.makes("of", r, what));
            }
        }
        for (int i = 0; i < values.get(6); i++) {
            for (int what = 0; what <= 6; what++) {
                values.add(s.makes("flow", i, what));
            }
        }
        for (int stage = 1; stage <= 7; stage++) {
            values.add(s.makes("span", stage, 1));
        }
        return hash(values);
    }

    private static void digests(String name, String calls) {
        Run run = new Run("Promise 29: " + name);
        if (!calls.isEmpty()) {
            run.does(calls);
        }
        long due = digestOf(calls);
        run.does("digest() = " + due + "; digest() = " + due);
    }

    private static void digestOfNew() {
        digests("'in long arithmetic that wraps around', a new object", "");
        List<Long> values = new ArrayList<>();
        for (int k = 0; k < 5 + 10 + 32; k++) {
            values.add(0L);
        }
        for (long span : new long[] {5, 5, 40, 10, 3, 8, 20}) {
            values.add(span);
        }
        new Run("Promise 29: 'It starts with h = 2573', a new object, by the numbers themselves").does("digest() = " + hash(values));
    }

    private static void digestOfFull() {
        StringBuilder calls = new StringBuilder("zone(5, 0, 31) = 32; zone(0, 0, 0) = 1;");
        for (int r = 0; r < 12; r++) {
            calls.append("rule(" + r + ", 1) = " + (r + 1) + "; sets(" + r + ", 2, " + r + ") = 0;");
        }
        for (int goal = 1; goal <= 8; goal++) {
            calls.append("letter(0, " + goal + ", 0, 1, 2) = 1; letter(" + goal + ", 0, 0, 1, 2) = 1;");
        }
        calls.append("letter(0, 9, 0, 0, 0) = 4; announces(7, 0, 15) = 1; rule(0, 0) = -4; rule(0, 9) = -2; letter(0, 0, 0, 0, 4) = 3;"
                + "span(7, 100) = 20");
        digests("'for each rule', 'for each flow', twelve and eight", calls.toString());
    }

    private static void digestParts() {
        digests("told(0), BAD", "told(5) = -2");
        digests("told(1), NO", "back() = -3");
        digests("told(3), the length of the text", "type(0) = 1");
        digests("told(4), remembered states", "cuts() = 0");
        digests("count(3), the time", "ticks(100) = 0");
        digests("count(5), a denied letter", "letter(0, 0, 0, 0, 0) = 0");
        digests("the zone of the last address", "zone(5, 31, 31) = 1");
        digests("of(r, 10), hits", "rule(0, 2) = 1; letter(0, 0, 0, 0, 0) = 2");
        digests("flow(i, 6), -1 where nobody has ended", "rule(0, 1) = 1; letter(3, 5, 2, 0, 0) = 1");
        digests("flow(i, 6), who has ended", "rule(0, 1) = 1; letter(3, 5, 2, 0, 0) = 1; letter(5, 3, 2, 0, 1) = 1; letter(3, 5, 2, 0, 2) = 1;"
                + "letter(5, 3, 2, 0, 3) = 1");
        digests("the span of the last stage", "span(7, 1) = 20");
        digests("something of everything", SOME);
        // the kept rules and the bytes of the text are no part of it
        new Run("Promise 29: what is no part of the sequence").does("rule(0, 1) = 1; keeps() = 1; digest() = " + digestOf("rule(0, 1); cuts()"));
        new Run("Promise 29: the bytes of the text are no part of the sequence").does("type(1) = 1; digest() = " + digestOf("type(2)"));
    }

    // ---- the object's last call

    private static void lastCall() {
        Run run = new Run("What it is: 'An object is used for at most 512 calls', the 512th").does("rule(0, 1) = 1")
                .repeats(255, "letter(3, 5, 2, 0, 0) = 1; letter(5, 3, 2, 0, 4) = 1");
        run.does("of(0, 10) = 255");
        new Run("What it is: the 512th call is digest").repeats(511, "cuts() = 0").does("digest() = " + digestOf("cuts(); cuts(); cuts(); cuts();"
                + "cuts()"));
    }
}
