/** Promises 11 to 16: what rules do. */
public final class AnalysisTest {
    private static final int BAD = -2;

    public static void main(String[] args) {
        deciding();
        counting();
        idling();
        contradicting();
        changing();
        actions();
        Run.end();
    }

    private static void deciding() {
        new Run("Promise 11").does("decides(0, 0, 0, 0) = -1; told(0) = 0; rule(0, 1) = 1; sets(0, 2, 4) = 0; sets(0, 3, 6) = 31;"
                + "sets(0, 4, 8) = 0; sets(0, 5, 9) = 31; sets(0, 6, 2) = 0; sets(0, 7, 3) = 15; sets(0, 8, 1) = 2;"
                + "decides(4, 8, 2, 1) = 0; decides(6, 9, 3, 1) = 0; decides(3, 8, 2, 1) = -1; decides(7, 8, 2, 1) = -1;"
                + "decides(4, 7, 2, 1) = -1; decides(4, 10, 2, 1) = -1; decides(4, 8, 1, 1) = -1; decides(4, 8, 4, 1) = -1;"
                + "decides(4, 8, 2, 0) = -1; rule(0, 0) = 2; decides(4, 8, 2, 1) = 0; sets(0, 8, 0) = 2; decides(4, 8, 2, 1) = 1;"
                + "of(0, 10) = 0; of(1, 10) = 0")
                .fails(BAD, "decides(-1, 0, 0, 0); decides(32, 0, 0, 0); decides(0, -1, 0, 0); decides(0, 32, 0, 0);"
                        + "decides(0, 0, -1, 0); decides(0, 0, 16, 0); decides(0, 0, 0, -1); decides(0, 0, 0, 2)");
        new Run("Promise 11, zones").does("zone(3, 5, 6) = 2; rule(0, 1) = 1; sets(0, 0, 3) = 6; rule(1, 1) = 2; sets(1, 1, 3) = 6;"
                + "decides(5, 0, 0, 0) = 0; decides(6, 5, 0, 0) = 0; decides(0, 6, 15, 1) = 1; decides(4, 7, 0, 0) = -1;"
                + "zone(0, 5, 5) = 1; decides(5, 0, 0, 0) = -1; decides(31, 31, 15, 1) = -1; sets(1, 1, 0) = 3; decides(31, 31, 15, 1) = 1");
        new Run("Promise 11, zones of the first and last address").does("zone(1, 0, 0) = 1; zone(2, 31, 31) = 1; rule(0, 1) = 1; sets(0, 0, 1) = 6;"
                + "sets(0, 1, 2) = 6;"
                + "decides(0, 31, 0, 0) = 0; decides(31, 0, 0, 0) = -1; decides(0, 30, 0, 0) = -1; decides(1, 31, 0, 0) = -1; cases(0, 1) = 32");
        new Run("Promise 11, empty ranges").does("rule(0, 1) = 1; sets(0, 2, 5) = 0; sets(0, 3, 4) = 31; decides(4, 0, 0, 0) = -1;"
                + "decides(5, 0, 0, 0) = -1; sets(0, 3, 5) = 4; decides(5, 0, 0, 0) = 0; sets(0, 6, 9) = 0; sets(0, 7, 8) = 15;"
                + "decides(5, 0, 8, 0) = -1; decides(5, 0, 9, 0) = -1");
    }

    private static void counting() {
        new Run("Promise 12").does("rule(0, 1) = 1; sets(0, 2, 1) = 0; sets(0, 3, 3) = 31; sets(0, 4, 30) = 0; sets(0, 6, 15) = 0;"
                + "sets(0, 8, 1) = 2; cases(0, 1) = 6; cases(0, 0) = 6; rule(0, 1) = 2; sets(0, 2, 3) = 0; cases(0, 0) = 29696;"
                + "cases(1, 1) = 6; cases(1, 0) = 4; sets(0, 4, 31) = 0; cases(1, 0) = 5; sets(0, 2, 0) = 3; cases(1, 0) = 3;"
                + "sets(0, 8, 0) = 2; cases(1, 0) = 6; zone(1, 2, 2) = 1; sets(1, 0, 1) = 6; cases(1, 1) = 2; cases(1, 0) = 2;"
                + "sets(1, 1, 1) = 6; cases(1, 1) = 0; zone(1, 31, 31) = 1; cases(1, 1) = 1; sets(1, 7, 14) = 15; cases(1, 1) = 0")
                .fails(BAD, "cases(-1, 0); cases(2, 0); cases(0, -1); cases(0, 2)");
        new Run("Promise 12, whole").fails(BAD, "cases(0, 0)").does("rule(0, 0) = 1; rule(1, 0) = 2; cases(0, 0) = 32768;"
                + "cases(0, 1) = 32768; cases(1, 0) = 0; cases(1, 1) = 32768; told(4) = 2");
    }

    private static void idling() {
        // a deny at the end decides cases, but they would be denied without it too
        new Run("Promise 13, last deny").does("rule(0, 0) = 1; idle(0, 0) = 0; idle(0, 1) = 1; sets(0, 9, 2) = 0; idle(0, 1) = 0;"
                + "sets(0, 2, 9) = 0; sets(0, 3, 8) = 31; idle(0, 0) = 1; idle(0, 1) = 1");
        // the later rule has the same action for only a part of the cases
        new Run("Promise 13, partly").does("rule(0, 1) = 1; sets(0, 6, 4) = 0; sets(0, 7, 6) = 15; rule(1, 1) = 2; idle(0, 1) = 1;"
                + "idle(0, 0) = 0; sets(1, 7, 5) = 15; idle(0, 1) = 0; sets(1, 7, 6) = 5; idle(0, 1) = 1; rule(1, 2) = 3;"
                + "sets(1, 2, 31) = 0; sets(1, 4, 31) = 0; sets(1, 6, 6) = 0; sets(1, 7, 6) = 15; sets(1, 8, 1) = 2; idle(0, 1) = 0;"
                + "sets(1, 9, 1) = 2; idle(0, 1) = 1; idle(1, 1) = 1; idle(1, 0) = 1; idle(2, 1) = 0")
                .fails(BAD, "idle(-1, 0); idle(3, 0); idle(0, -1); idle(0, 2)");
        // the rule stays the one that decides what none behind it fits
        new Run("Promise 13, reject").does("rule(0, 2) = 1; rule(1, 0) = 2; idle(0, 1) = 0; idle(1, 1) = 1; idle(1, 0) = 1;"
                + "sets(1, 9, 2) = 0; idle(0, 1) = 1; idle(1, 1) = 1; idle(0, 0) = 0; of(0, 9) = 2; told(4) = 3");
        new Run("Promise 13, the first case alone").does("rule(0, 1) = 1; sets(0, 3, 0) = 31; sets(0, 5, 0) = 31; sets(0, 7, 0) = 15;"
                + "sets(0, 8, 0) = 2;"
                + "idle(0, 0) = 0; idle(0, 1) = 0");
        Run last = new Run("Promise 13, the twelfth rule");
        for (int r = 0; r < 12; r++) {
            last.does("rule(" + r + ", 1) = " + (r + 1) + "; sets(" + r + ", 6, " + r + ") = 0; sets(" + r + ", 7, " + r + ") = 15");
        }
        last.does("idle(11, 0) = 0; idle(11, 1) = 0; idle(10, 1) = 0; cases(11, 0) = 2048; sets(11, 6, 10) = 11; sets(11, 7, 10) = 11;"
                + "idle(11, 1) = 1; idle(10, 1) = 1");
        new Run("Promise 13, none").fails(BAD, "idle(0, 0)");
    }

    private static void contradicting() {
        new Run("Promise 14").does("rule(0, 0) = 1; rule(1, 1) = 2; rule(2, 1) = 3; contradicts(1, 2) = 0; contradicts(0, 2) = 32768;"
                + "sets(0, 2, 10) = 0; sets(2, 3, 11) = 31; contradicts(0, 2) = 2048; contradicts(2, 0) = 2048; sets(0, 5, 3) = 31;"
                + "sets(2, 4, 3) = 0; contradicts(0, 2) = 64; sets(0, 7, 7) = 15; sets(2, 6, 7) = 0; contradicts(0, 2) = 4;"
                + "sets(2, 8, 0) = 2; contradicts(0, 2) = 2; sets(0, 8, 1) = 2; contradicts(2, 0) = 0; sets(0, 8, 0) = 1;"
                + "zone(4, 11, 11) = 1; sets(0, 0, 4) = 6; contradicts(0, 2) = 1; sets(2, 0, 0) = 6; contradicts(0, 2) = 0;"
                + "sets(2, 0, 4) = 0; sets(2, 1, 4) = 6; contradicts(0, 2) = 0; zone(4, 3, 3) = 1; contradicts(0, 2) = 1;"
                + "sets(2, 9, 2) = 1; contradicts(0, 2) = 1; sets(2, 9, 0) = 2; contradicts(0, 2) = 0")
                .fails(BAD, "contradicts(0, 0); contradicts(2, 2); contradicts(-1, 0); contradicts(0, -1);"
                        + "contradicts(3, 0); contradicts(0, 3)");
    }

    private static void changing() {
        new Run("Promise 15").does("change(0) = 0; change(1) = -1; change(6) = -1; rule(0, 1) = 1; change(0) = 32768; change(1) = 0;"
                + "change(2) = 0; change(3) = 0; change(4) = 0; change(5) = 0; change(6) = 1; sets(0, 2, 7) = 0; sets(0, 4, 9) = 0;"
                + "sets(0, 6, 3) = 0; sets(0, 8, 1) = 2; change(0) = 7475; change(1) = 7; change(2) = 9; change(3) = 3; change(4) = 1;"
                + "change(5) = 0; change(6) = 1; keeps() = 1; change(0) = 0; change(5) = -1; sets(0, 9, 2) = 1; change(0) = 7475;"
                + "change(5) = 1; change(6) = 2; takes() = 1; change(0) = 0; rule(0, 0) = 2; sets(0, 3, 7) = 31; sets(0, 5, 9) = 31;"
                + "sets(0, 7, 4) = 15; change(0) = 2; change(1) = 7; change(2) = 9; change(3) = 3; change(4) = 1; change(5) = 1; change(6) = 0")
                .fails(BAD, "change(-1); change(7)");
        new Run("Promise 15, last case").does("rule(0, 2) = 1; sets(0, 2, 31) = 0; sets(0, 4, 31) = 0; sets(0, 6, 15) = 0;"
                + "sets(0, 8, 1) = 2; change(0) = 1; change(1) = 31; change(2) = 31; change(3) = 15; change(4) = 1; change(5) = 0;"
                + "change(6) = 2; told(4) = 5; of(0, 10) = 0");
        new Run("Promise 15, present zones").does("rule(0, 1) = 1; sets(0, 0, 1) = 6; keeps() = 1; sets(0, 0, 2) = 1; change(0) = 0;"
                + "zone(1, 4, 4) = 1; zone(2, 5, 6) = 2; change(0) = 3072; change(1) = 4; change(5) = 1; change(6) = 0");
        new Run("Promise 15, other rules with the same actions").does("rule(0, 2) = 1; keeps() = 1; rule(0, 2) = 2; change(0) = 0; change(3) = -1");
    }

    private static void actions() {
        new Run("Promise 16").does("rule(0, 1) = 1; sets(0, 3, 0) = 31; rule(1, 2) = 2; sets(1, 5, 1) = 31; all(0) = 29760;"
                + "all(1) = 1024; all(2) = 1984; rule(2, 0) = 3; all(0) = 29760; rule(0, 0) = 4; all(0) = 32768; all(1) = 0; all(2) = 0;"
                + "sets(0, 8, 1) = 2; all(1) = 512; all(2) = 992; all(0) = 31264").fails(BAD, "all(-1); all(3)");
    }
}
