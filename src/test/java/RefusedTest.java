/**
 * Error codes: 'A failed call changes nothing except the counts of told'. Every error of every
 * method is made where there is something of everything that it could change; so are the calls
 * that only ask.
 */
public final class RefusedTest {
    private static final int BAD = -2, NO = -3, FULL = -4;

    private static final String TEXT = "reject port 15 15;allow src 0 30;" + "deny;".repeat(10);

    private static final String[] WRONG = {
        "zone(-1, 0, 31)", "zone(6, 0, 31)", "zone(1, -1, 31)", "zone(1, 5, 4)", "zone(1, 0, 32)", "zoneOf(-1)", "zoneOf(32)",
        "rule(-1, 0)", "rule(13, 0)", "rule(0, -1)", "rule(0, 3)",
        "sets(-1, 0, 0)", "sets(12, 0, 0)", "sets(0, -1, 0)", "sets(0, 10, 0)", "sets(0, 0, 7)", "sets(0, 2, 32)", "sets(0, 6, 16)", "sets(0, 8, 3)", "sets(1, 9, -1)",
        "drops(-1)", "drops(12)", "moves(-1, 0)", "moves(12, 0)", "moves(0, -1)", "moves(0, 12)", "of(-1, 0)", "of(12, 0)", "of(0, -1)", "of(0, 11)",
        "decides(-1, 0, 0, 0)", "decides(0, 32, 0, 0)", "decides(0, 0, 16, 0)", "decides(0, 0, 0, 2)", "cases(12, 0)", "cases(0, 2)", "idle(12, 1)", "idle(0, 2)",
        "contradicts(0, 0)", "contradicts(0, 12)", "contradicts(12, 0)", "contradicts(-1, 0)", "change(-1)", "change(7)", "all(-1)", "all(3)",
        "letter(-1, 0, 0, 0, 0)", "letter(0, 32, 0, 0, 0)", "letter(0, 0, 16, 0, 0)", "letter(0, 0, 0, 2, 0)", "letter(0, 0, 0, 0, 5)",
        "announces(-1, 0, 0)", "announces(8, 0, 0)", "announces(0, 2, 0)", "announces(0, 0, 16)", "ticks(0)", "ticks(101)", "ticks(-1)",
        "span(0, 1)", "span(8, 1)", "span(1, 0)", "span(1, 101)", "flow(-1, 0)", "flow(0, -1)", "flow(0, 7)", "count(-1)", "count(10)", "type(-1)", "type(128)", "told(-1)", "told(5)",
    };

    public static void main(String[] args) {
        refusedWhereAllIsFull();
        refusedWithoutStates();
        asking();
        Run.end();
    }

    /**
     * Twelve rules with hits, twelve other kept ones, eight flows, six announcements, a text,
     * changed zones and spans, letters of all kinds, and five remembered states that differ.
     */
    private static Run full(String name) {
        Run run = new Run(name).types(TEXT).does("reads() = 12; keeps() = 12; sets(0, 9, 1) = 2; zone(4, 30, 31) = 2; span(7, 90) = 20;"
                + "span(1, 6) = 5;"
                + "letter(0, 9, 0, 1, 2) = 1; letter(9, 0, 0, 1, 2) = 1; letter(3, 5, 2, 0, 0) = 1; letter(5, 3, 2, 0, 1) = 1;"
                + "letter(3, 5, 2, 0, 2) = 1; letter(31, 0, 0, 0, 0) = 0; letter(0, 0, 0, 0, 1) = 3");
        for (int goal = 1; goal <= 5; goal++) {
            run.does("letter(0, " + goal + ", 15, 0, 0) = 1; letter(" + goal + ", 0, 15, 0, 1) = 1");
        }
        run.does("announces(0, 0, 1) = 1; announces(0, 1, 2) = 2; announces(1, 0, 3) = 3; ticks(2) = 7; announces(1, 1, 4) = 4;"
                + "letter(3, 5, 2, 0, 3) = 1; letter(0, 7, 1, 1, 2) = 1; letter(7, 0, 1, 1, 2) = 1;"
                + "letter(0, 8, 1, 0, 0) = 4; announces(0, 0, 5) = 5; announces(7, 0, 6) = 6");
        return run.does("moves(0, 3) = 0; zone(3, 29, 31) = 3; span(3, 77) = 40; sets(2, 0, 1) = 6; ticks(1) = 8; count(0) = 12; count(1) = 8;"
                + "count(2) = 6; told(4) = 5");
    }

    private static void refusedWhereAllIsFull() {
        for (String call : WRONG) {
            full("Error codes: 'A failed call changes nothing', BAD").fails(BAD, call);
        }
        full("Error codes: 'A failed call changes nothing', NO of announces").fails(NO, "announces(1, 0, 0)");
        full("Error codes: 'A failed call changes nothing', FULL of rule").fails(FULL, "rule(0, 1); rule(12, 0)");
        full("Error codes: 'A failed call changes nothing', FULL of announces").fails(FULL, "announces(0, 1, 0)");
        String blanks = " ".repeat(120 - TEXT.length());
        Run typed = full("Error codes: 'A failed call changes nothing', FULL of type");
        for (int n = TEXT.length() + 1; n <= TEXT.length() + blanks.length(); n++) {
            typed.does("type(32) = " + n);
        }
        typed.fails(FULL, "type(59); type(0)").fails(BAD, "type(128)");
    }

    private static void refusedWithoutStates() {
        full("Error codes: 'A failed call changes nothing', NO of back").does("back() = 4; back() = 3; back() = 2; back() = 1; back() = 0;"
                + "count(1) = 8; count(2) = 6").fails(NO, "back(); back()");
    }

    private static void asking() {
        full("States: a call that asks changes nothing").asks("zoneOf(31) = 3; of(0, 9) = 1; of(3, 10) = 5; decides(0, 0, 15, 0) = 0;"
                + "cases(0, 0) = 31744; cases(0, 1) = 31744; idle(11, 0) = 1; idle(0, 1) = 0;"
                + "contradicts(0, 1) = 31744; change(0) = 2048; change(1) = 0; change(3) = 15; change(5) = 2; change(6) = 1; all(1) = 31744;"
                + "flow(7, 1) = 7; flow(8, 0) = -1; count(8) = 1; told(3) = " + TEXT.length() + "; told(4) = 5");
    }
}
