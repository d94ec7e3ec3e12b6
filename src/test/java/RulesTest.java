/** Promises 1 to 10: a new object, zones, and the list of rules. */
public final class RulesTest {
    private static final int BAD = -2, FULL = -4;

    public static void main(String[] args) {
        newObject();
        zones();
        inserting();
        setting();
        dropping();
        moving();
        keeping();
        Run.end();
    }

    private static void newObject() {
        Run run = new Run("Promise 1");
        for (int what = 0; what <= 9; what++) {
            run.does("count(" + what + ") = 0");
        }
        for (int what = 0; what <= 4; what++) {
            run.does("told(" + what + ") = 0");
        }
        for (int a = 0; a < 32; a++) {
            run.does("zoneOf(" + a + ") = 0");
        }
        run.does("all(0) = 32768; all(1) = 0; all(2) = 0; flow(0, 0) = -1; change(0) = 0; clear() = 0");
    }

    private static void zones() {
        new Run("Promise 2").does("zone(5, 0, 31) = 32; zone(5, 0, 31) = 0; zone(0, 31, 31) = 1; zone(1, 0, 0) = 1;"
                + "zone(2, 30, 31) = 2; zone(5, 0, 31) = 3; told(4) = 5");
        new Run("Promise 2, wrong").fails(BAD, "zone(-1, 0, 1); zone(6, 0, 1); zone(0, -1, 1); zone(0, 2, 1);"
                + "zone(0, 0, 32); zone(0, 32, 32); zone(0, 5, -1); zone(0, -2147483648, 2147483647)");
        new Run("Promise 3").does("zone(3, 31, 31) = 1; zone(4, 0, 1) = 2; zoneOf(31) = 3; zoneOf(30) = 0;"
                + "zoneOf(0) = 4; zoneOf(1) = 4; zoneOf(2) = 0").fails(BAD, "zoneOf(-1); zoneOf(32)");
    }

    private static void inserting() {
        new Run("Promise 4").does("rule(0, 1) = 1; letter(1, 2, 3, 0, 0) = 1; rule(0, 0) = 2; rule(1, 2) = 3; rule(3, 1) = 4")
                .hasRule(0, 6, 6, 0, 31, 0, 31, 0, 15, 2, 0, 0)
                .hasRule(1, 6, 6, 0, 31, 0, 31, 0, 15, 2, 2, 0)
                .hasRule(2, 6, 6, 0, 31, 0, 31, 0, 15, 2, 1, 1)
                .hasRule(3, 6, 6, 0, 31, 0, 31, 0, 15, 2, 1, 0)
                .fails(BAD, "rule(-1, 0); rule(5, 0); rule(0, -1); rule(0, 3)");
        Run full = new Run("Promise 4, full");
        for (int n = 1; n <= 12; n++) {
            full.does("rule(" + (n - 1) + ", 1) = " + n);
        }
        full.fails(FULL, "rule(0, 0); rule(12, 0)").fails(BAD, "rule(13, 0); rule(12, 3)");
        // a dropped rule's numbers must not come back in a new one
        new Run("Promise 4, again").does("rule(0, 1) = 1; sets(0, 2, 9) = 0; letter(9, 9, 0, 1, 2) = 1; drops(0) = 0; rule(0, 2) = 1")
                .hasRule(0, 6, 6, 0, 31, 0, 31, 0, 15, 2, 2, 0);
    }

    private static void setting() {
        int[] any = {6, 6, 0, 31, 0, 31, 0, 15, 2, 1};
        int[] greatest = {6, 6, 31, 31, 31, 31, 15, 15, 2, 2};
        for (int what = 0; what < 10; what++) {
            Run run = new Run("Promise 5").does("rule(0, 0) = 1; rule(1, 1) = 2; rule(2, 0) = 3");
            String head = "sets(1, " + what + ", ";
            run.does(head + "0) = " + any[what] + ";" + head + greatest[what] + ") = 0;" + head + "1) = " + greatest[what]);
            run.does("of(1, " + what + ") = 1; of(0, 10) = 0; told(4) = 5");
            run.fails(BAD, head + "-1);" + head + (greatest[what] + 1) + ")");
            int[] due = any.clone();
            due[what] = 1;
            run.hasRule(1, due);
            run.hasRule(0, 6, 6, 0, 31, 0, 31, 0, 15, 2, 0, 0).hasRule(2, 6, 6, 0, 31, 0, 31, 0, 15, 2, 0, 0);
        }
        new Run("Promise 5, wrong").fails(BAD, "sets(0, 0, 0)").does("rule(0, 0) = 1")
                .fails(BAD, "sets(-1, 0, 0); sets(1, 0, 0); sets(0, -1, 0); sets(0, 10, 0)");
        new Run("Promise 8").does("rule(0, 2) = 1; rule(1, 1) = 2; letter(0, 0, 0, 0, 0) = 2; letter(0, 0, 0, 0, 0) = 2;"
                + "of(0, 10) = 2; of(1, 10) = 0; of(0, 9) = 2; of(1, 3) = 31")
                .fails(BAD, "of(-1, 0); of(2, 0); of(0, -1); of(0, 11)");
        new Run("Promise 8, none").fails(BAD, "of(0, 0)");
    }

    private static void dropping() {
        new Run("Promise 6").does("rule(0, 0) = 1; rule(1, 1) = 2; rule(2, 2) = 3; letter(0, 0, 0, 0, 0) = 0; drops(1) = 2;"
                + "of(0, 9) = 0; of(0, 10) = 1; of(1, 9) = 2; drops(0) = 1; of(0, 9) = 2; of(0, 10) = 0; drops(0) = 0")
                .fails(BAD, "drops(0); drops(-1)").does("rule(0, 0) = 1").fails(BAD, "drops(1)");
    }

    private static void moving() {
        String three = "rule(0, 0) = 1; rule(1, 1) = 2; rule(2, 2) = 3; sets(0, 6, 4) = 0; sets(1, 6, 5) = 0; sets(2, 6, 6) = 0;"
                + "letter(0, 0, 4, 0, 0) = 0;";
        new Run("Promise 7, down").does(three + "moves(0, 2) = 0; of(0, 6) = 5; of(1, 6) = 6; of(2, 6) = 4;"
                + "of(2, 10) = 1; of(0, 10) = 0; of(0, 9) = 1; of(2, 9) = 0");
        new Run("Promise 7, up").does(three + "moves(2, 0) = 2; of(0, 6) = 6; of(1, 6) = 4; of(2, 6) = 5; of(1, 10) = 1");
        new Run("Promise 7, next").does(three + "moves(1, 2) = 1; of(0, 6) = 4; of(1, 6) = 6; of(2, 6) = 5");
        new Run("Promise 7, same").does(three + "moves(1, 1) = 1; of(0, 6) = 4; of(1, 6) = 5; of(2, 6) = 6; told(4) = 5")
                .fails(BAD, "moves(-1, 0); moves(3, 0); moves(0, -1); moves(0, 3)");
        Run whole = new Run("Promise 7, whole rules").does("rule(0, 1) = 1; rule(1, 2) = 2; sets(0, 0, 1) = 6; sets(0, 1, 2) = 6; sets(0, 2, 3) = 0;"
                + "sets(0, 3, 4) = 31; sets(0, 4, 5) = 0; sets(0, 5, 6) = 31; sets(0, 6, 7) = 0; sets(0, 7, 8) = 15; sets(0, 8, 0) = 2;"
                + "moves(0, 1) = 0");
        whole.hasRule(0, 6, 6, 0, 31, 0, 31, 0, 15, 2, 2, 0).hasRule(1, 1, 2, 3, 4, 5, 6, 7, 8, 0, 1, 0);
        new Run("Promise 7, none").fails(BAD, "moves(0, 0)");
    }

    private static void keeping() {
        new Run("Promise 9 and 10").does("keeps() = 0; rule(0, 1) = 1; sets(0, 4, 7) = 0; letter(1, 7, 0, 0, 0) = 1; keeps() = 1;"
                + "of(0, 10) = 1; rule(0, 2) = 2; sets(1, 4, 8) = 7; takes() = 1; of(0, 4) = 7; of(0, 9) = 1; of(0, 10) = 0;"
                + "sets(0, 4, 9) = 7; takes() = 1; of(0, 4) = 7; drops(0) = 0; keeps() = 0; rule(0, 0) = 1; takes() = 0; count(0) = 0");
        new Run("Promise 10, never kept").does("rule(0, 1) = 1; takes() = 0; count(0) = 0; told(4) = 2");
        new Run("Promise 9, hits").does("rule(0, 2) = 1; letter(0, 0, 0, 0, 0) = 2; keeps() = 1; letter(0, 0, 0, 0, 0) = 2;"
                + "of(0, 10) = 2; takes() = 1; of(0, 10) = 0; letter(0, 0, 0, 0, 0) = 2; of(0, 10) = 1; takes() = 1; of(0, 10) = 0");
    }
}
