/** Promises 17 to 23: letters, flows, announcements, time. */
public final class LettersTest {
    private static final int BAD = -2, NO = -3, FULL = -4;
    private static final int[] FIRST_SPANS = {5, 5, 40, 10, 3, 8, 20};

    /** Calls that bring a flow from 3 to 5 at port 2 into each stage; letters of sort 1 for 6 and 7. */
    private static final String[] TO_STAGE = {
        "",
        "letter(3, 5, 2, 0, 0) = 1;",
        "letter(3, 5, 2, 0, 0) = 1; letter(5, 3, 2, 0, 1) = 1;",
        "letter(3, 5, 2, 0, 0) = 1; letter(5, 3, 2, 0, 1) = 1; letter(3, 5, 2, 0, 2) = 1;",
        "letter(3, 5, 2, 0, 0) = 1; letter(5, 3, 2, 0, 1) = 1; letter(3, 5, 2, 0, 2) = 1; letter(3, 5, 2, 0, 3) = 1;",
        "letter(3, 5, 2, 0, 0) = 1; letter(5, 3, 2, 0, 1) = 1; letter(3, 5, 2, 0, 2) = 1; letter(3, 5, 2, 0, 3) = 1;"
                + "letter(5, 3, 2, 0, 3) = 1;",
        "letter(3, 5, 2, 1, 2) = 1;",
        "letter(3, 5, 2, 1, 2) = 1; letter(5, 3, 2, 1, 2) = 1;",
    };

    /** The next stage by stage, side and sign: 0 for stray, -1 for a flow that is removed. */
    private static final int[][] NEXT = {
        {},
        {0, 0, 0, 0, -1, 0, 2, 0, 0, -1},
        {0, 0, 3, 0, -1, 0, 0, 0, 0, -1},
        {0, 0, 3, 4, -1, 0, 0, 3, 4, -1},
        {0, 0, 0, 0, -1, 0, 0, 4, 5, -1},
        {0, 0, 0, 0, -1, 0, 0, 0, 0, -1},
        {0, 0, 6, 0, -1, 0, 0, 7, 0, -1},
        {0, 0, 7, 0, -1, 0, 0, 7, 0, -1},
    };

    public static void main(String[] args) {
        wrongLetters();
        stages();
        endedFromOtherSide();
        opening();
        hits();
        room();
        announcing();
        announcedLetters();
        time();
        spans();
        cutting();
        askingFlows();
        counts();
        Run.end();
    }

    private static void wrongLetters() {
        new Run("Promise 17, wrong").does("rule(0, 1) = 1").fails(BAD, "letter(-1, 0, 0, 0, 0); letter(32, 0, 0, 0, 0);"
                + "letter(0, -1, 0, 0, 0); letter(0, 32, 0, 0, 0); letter(0, 0, -1, 0, 0); letter(0, 0, 16, 0, 0);"
                + "letter(0, 0, 0, -1, 0); letter(0, 0, 0, 2, 0); letter(0, 0, 0, 0, -1); letter(0, 0, 0, 0, 5)");
    }

    /** Every sign from both sides in every stage, one unit of time later. */
    private static void stages() {
        for (int stage = 1; stage <= 7; stage++) {
            for (int move = 0; move < 10; move++) {
                int side = move / 5;
                String ends = side == 0 ? "3, 5" : "5, 3";
                String letter = "letter(" + ends + ", 2, " + (stage < 6 ? 0 : 1) + ", " + move % 5 + ")";
                int next = NEXT[stage][move];
                int ended = stage == 4 || stage == 5 ? 0 : -1;
                Run run = new Run("Promise 17, stage " + stage).does("rule(0, 1) = 1;" + TO_STAGE[stage] + "flow(0, 4) = " + stage
                        + "; flow(0, 5) = " + FIRST_SPANS[stage - 1] + "; flow(0, 6) = " + ended + "; ticks(1) = 1");
                run.does(letter + " = " + (next == 0 ? 3 : 1));
                if (next == -1) {
                    run.does("count(1) = 0; flow(0, 4) = -1; count(9) = 0; count(7) = 0; of(0, 10) = 1");
                    continue;
                }
                int after = next == 0 ? stage : next;
                int due = next == 0 ? FIRST_SPANS[stage - 1] : 1 + FIRST_SPANS[next - 1];
                int endedAfter = stage == 3 && next == 4 ? side : ended;
                run.does("count(1) = 1; flow(0, 0) = 3; flow(0, 1) = 5; flow(0, 2) = 2; flow(0, 4) = " + after
                        + "; flow(0, 5) = " + due + "; flow(0, 6) = " + endedAfter + "; count(7) = " + (next == 0 ? 1 : 0)
                        + "; of(0, 10) = 1");
            }
        }
    }

    private static void endedFromOtherSide() {
        new Run("Promise 17, the other side ends").does("rule(0, 1) = 1;" + TO_STAGE[3] + "letter(5, 3, 2, 0, 3) = 1; flow(0, 6) = 1;"
                + "letter(5, 3, 2, 0, 2) = 3; letter(5, 3, 2, 0, 3) = 3; letter(3, 5, 2, 0, 2) = 1; flow(0, 4) = 4;"
                + "letter(3, 5, 2, 0, 3) = 1; flow(0, 4) = 5; flow(0, 6) = 1; letter(3, 5, 2, 0, 2) = 3");
    }

    private static void opening() {
        // without a flow, only an open of sort 0 and a go of sort 1 are not stray
        for (int sort = 0; sort <= 1; sort++) {
            for (int sign = 0; sign <= 4; sign++) {
                boolean opens = sort == 0 ? sign == 0 : sign == 2;
                new Run("Promise 17, opening").does("rule(0, 1) = 1; letter(3, 5, 2, " + sort + ", " + sign + ") = " + (opens ? 1 : 3)
                        + "; count(1) = " + (opens ? 1 : 0) + "; of(0, 10) = " + (opens ? 1 : 0) + "; told(4) = 2");
            }
        }
        new Run("Promise 17, no rule").does("letter(3, 5, 2, 0, 0) = 0; count(5) = 1; count(1) = 0; told(4) = 1");
        // another port, sort or address is another flow
        new Run("Promise 17, cases").does("rule(0, 1) = 1; letter(3, 5, 2, 0, 0) = 1; letter(3, 5, 3, 0, 0) = 1; letter(3, 5, 2, 1, 2) = 1;"
                + "letter(3, 6, 2, 0, 0) = 1; letter(4, 5, 2, 0, 0) = 1; count(1) = 5; letter(3, 5, 2, 0, 0) = 3; letter(5, 3, 2, 0, 0) = 3;"
                + "count(1) = 5; flow(1, 2) = 3; flow(2, 3) = 1; flow(2, 4) = 6; flow(3, 1) = 6; flow(4, 0) = 4");
        // a flow of an address to itself has no other side
        new Run("Promise 17, itself").does("rule(0, 1) = 1; letter(7, 7, 2, 0, 0) = 1; letter(7, 7, 2, 0, 1) = 3; flow(0, 4) = 1;"
                + "letter(7, 7, 2, 1, 2) = 1; letter(7, 7, 2, 1, 2) = 1; flow(1, 4) = 6; letter(7, 7, 2, 0, 4) = 1; count(1) = 1");
        // rules are not asked again for a flow
        new Run("Promise 17, later rules").does("rule(0, 1) = 1; letter(3, 5, 2, 0, 0) = 1; rule(0, 0) = 2; letter(5, 3, 2, 0, 1) = 1;"
                + "of(0, 10) = 0; of(1, 10) = 1");
    }

    private static void hits() {
        new Run("Promise 17, hits").does("rule(0, 2) = 1; sets(0, 7, 4) = 15; rule(1, 0) = 2; letter(0, 1, 4, 0, 0) = 2;"
                + "letter(0, 1, 5, 0, 0) = 0; letter(0, 1, 4, 1, 2) = 2; letter(0, 1, 4, 1, 3) = 3; of(0, 10) = 2; of(1, 10) = 1;"
                + "count(5) = 1; count(6) = 2; count(7) = 1; count(4) = 0; count(1) = 0");
    }

    private static void room() {
        // of equal due times the oldest in stage 1 or 6 gives way, and it does not count as due
        new Run("Promise 17, the oldest gives way").does("rule(0, 1) = 1").does(opens(8)).does("letter(1, 0, 0, 0, 1) = 1;"
                + "letter(0, 9, 0, 0, 0) = 1; count(1) = 8; flow(0, 1) = 1; flow(1, 1) = 3; flow(7, 1) = 9; count(9) = 0; count(4) = 10");
        new Run("Promise 17, the first flow gives way").does("rule(0, 1) = 1").does(opens(8)).does("letter(0, 9, 0, 0, 0) = 1; count(1) = 8;"
                + "flow(0, 1) = 2; flow(7, 1) = 9; letter(1, 0, 0, 0, 0) = 1; flow(0, 1) = 3; flow(7, 0) = 1");
        // a smaller due time comes before age, in stage 6 too
        new Run("Promise 17, the least due time").does("span(6, 3) = 8; rule(0, 1) = 1").does(opens(6))
                .does("letter(8, 9, 1, 1, 2) = 1; letter(8, 10, 1, 1, 2) = 1; letter(0, 20, 0, 0, 0) = 1; flow(6, 1) = 10; flow(7, 1) = 20;"
                        + "letter(8, 11, 1, 1, 2) = 1; flow(6, 1) = 20; flow(7, 1) = 11; flow(0, 1) = 1; count(1) = 8");
        Run full = new Run("Promise 17, no room").does("rule(0, 1) = 1");
        for (int goal = 1; goal <= 7; goal++) {
            full.does("letter(0, " + goal + ", 0, 1, 2) = 1; letter(" + goal + ", 0, 0, 1, 2) = 1");
        }
        full.does("letter(9, 8, 0, 0, 0) = 1; letter(8, 9, 0, 0, 1) = 1; letter(0, 30, 0, 0, 0) = 4; count(8) = 1; of(0, 10) = 9;"
                + "count(1) = 8; count(4) = 16; told(4) = 5; announces(0, 0, 5) = 1; letter(1, 0, 5, 1, 2) = 4; count(2) = 0; count(8) = 2;"
                + "of(0, 10) = 9; letter(9, 8, 0, 0, 4) = 1; letter(0, 30, 0, 0, 0) = 1; count(1) = 8; of(0, 10) = 10");
        // a letter that is not allowed makes nothing give way
        new Run("Promise 17, full and denied").does("rule(0, 1) = 1").does(opens(8)).does("sets(0, 9, 2) = 1; letter(0, 9, 0, 0, 0) = 2;"
                + "count(1) = 8; flow(0, 1) = 1; drops(0) = 0; letter(0, 9, 0, 0, 0) = 0; flow(0, 1) = 1; count(1) = 8");
    }

    private static String opens(int n) {
        StringBuilder calls = new StringBuilder();
        for (int goal = 1; goal <= n; goal++) {
            calls.append("letter(0, ").append(goal).append(", 0, 0, 0) = 1;");
        }
        return calls.toString();
    }

    private static void announcing() {
        for (int stage = 1; stage <= 7; stage++) {
            Run run = new Run("Promise 18, stage " + stage).does("rule(0, 1) = 1;" + TO_STAGE[stage]);
            if (stage == 3 || stage == 7) {
                run.does("announces(0, 0, 0) = 1; announces(0, 1, 15) = 2; announces(0, 0, 0) = 3; count(2) = 3");
            } else {
                run.fails(NO, "announces(0, 0, 9)").fails(BAD, "announces(0, 0, 16); announces(1, 0, 0)");
            }
        }
        new Run("Promise 18, full").does("rule(0, 1) = 1;" + TO_STAGE[3] + "announces(0, 0, 1) = 1; announces(0, 0, 2) = 2;"
                + "announces(0, 0, 3) = 3; announces(0, 0, 4) = 4; announces(0, 0, 5) = 5; announces(0, 0, 5) = 6")
                .fails(FULL, "announces(0, 0, 6); announces(0, 1, 6)")
                .fails(BAD, "announces(-1, 0, 0); announces(1, 0, 0); announces(0, -1, 0); announces(0, 2, 0);"
                        + "announces(0, 0, -1); announces(0, 0, 16)")
                .does("letter(3, 5, 2, 0, 3) = 1").fails(NO, "announces(0, 0, 6)");
        new Run("Promise 18, no flow").fails(BAD, "announces(0, 0, 0)");
    }

    private static void announcedLetters() {
        String denied = "rule(0, 1) = 1;" + TO_STAGE[3] + "sets(0, 9, 0) = 1;";
        new Run("Promise 18, way 0").does(denied + "announces(0, 0, 9) = 1; letter(3, 5, 9, 0, 0) = 0; letter(5, 3, 8, 0, 0) = 0;"
                + "letter(5, 3, 9, 1, 2) = 0; letter(5, 3, 9, 0, 1) = 3; count(2) = 1; letter(5, 3, 9, 0, 0) = 1; count(2) = 0;"
                + "flow(1, 0) = 5; flow(1, 1) = 3; flow(1, 2) = 9; flow(1, 3) = 0; flow(1, 4) = 1; flow(1, 5) = 5; flow(1, 6) = -1; of(0, 10) = 4");
        new Run("Promise 18, way 1").does(denied + "announces(0, 1, 9) = 1; letter(5, 3, 9, 0, 0) = 0; letter(3, 5, 9, 0, 0) = 1;"
                + "count(2) = 0; flow(1, 0) = 3; flow(1, 1) = 5; of(0, 10) = 2");
        new Run("Promise 18, sort 1").does("rule(0, 1) = 1;" + TO_STAGE[7] + "drops(0) = 0; announces(0, 1, 4) = 1; letter(3, 5, 4, 0, 0) = 0;"
                + "letter(3, 5, 4, 1, 2) = 1; flow(1, 4) = 6; count(2) = 0");
        // each letter uses one announcement up, the oldest first
        new Run("Promise 18, the oldest").does(denied + "announces(0, 0, 9) = 1; ticks(3) = 1; announces(0, 0, 9) = 2; letter(5, 3, 9, 0, 0) = 1;"
                + "count(2) = 1; ticks(8) = 1; count(2) = 1; letter(5, 3, 9, 0, 0) = 1; count(2) = 0; letter(5, 3, 9, 0, 4) = 1;"
                + "letter(5, 3, 9, 0, 0) = 0");
        // a letter of a flow leaves an announcement with the same case alone
        new Run("Promise 18, a flow first").does("rule(0, 1) = 1;" + TO_STAGE[3] + "announces(0, 1, 2) = 1; letter(3, 5, 2, 0, 0) = 3; count(2) = 1;"
                + "letter(3, 5, 2, 0, 4) = 1; count(2) = 1; drops(0) = 0; letter(3, 5, 2, 0, 0) = 1; count(2) = 0");
    }

    private static void time() {
        new Run("Promise 19").does("ticks(100) = 0; count(3) = 100; ticks(1) = 0; count(3) = 101").fails(BAD, "ticks(0); ticks(101); ticks(-1)");
        new Run("Promise 19, flows").does("rule(0, 1) = 1; letter(0, 1, 0, 0, 0) = 1; ticks(2) = 1; letter(0, 2, 0, 0, 0) = 1;"
                + "letter(0, 3, 0, 1, 2) = 1;"
                + "ticks(2) = 3; ticks(1) = 2; flow(0, 1) = 2; flow(1, 1) = 3; count(9) = 1; ticks(1) = 2; ticks(1) = 1; count(9) = 2;"
                + "flow(0, 1) = 3; flow(0, 5) = 10; ticks(2) = 1; ticks(1) = 0; count(9) = 3; count(3) = 10");
        new Run("Promise 19, announcements").does("rule(0, 1) = 1;" + TO_STAGE[3] + "announces(0, 0, 1) = 1; ticks(4) = 1; announces(0, 0, 2) = 2;"
                + "ticks(5) = 1; count(2) = 2; ticks(1) = 1; count(2) = 1; ticks(3) = 1; count(2) = 1; ticks(1) = 1; count(2) = 0; count(9) = 0;"
                + "told(4) = 5");
        // announcements last on without their flow
        new Run("Promise 19, an announcement alone").does("span(3, 5) = 40; rule(0, 1) = 1;" + TO_STAGE[3] + "announces(0, 0, 1) = 1; ticks(5) = 0;"
                + "count(2) = 1; drops(0) = 0; letter(5, 3, 1, 0, 0) = 1; count(2) = 0");
    }

    private static void spans() {
        for (int stage = 1; stage <= 7; stage++) {
            new Run("Promise 20, stage " + stage).does("rule(0, 1) = 1; span(" + stage + ", 100) = " + FIRST_SPANS[stage - 1] + ";"
                    + TO_STAGE[stage] + "flow(0, 5) = 100; span(" + stage + ", 1) = 100; flow(0, 5) = 100; span(" + stage + ", 2) = 1; told(4) = 5")
                    .fails(BAD, "span(" + stage + ", 0); span(" + stage + ", 101)");
        }
        new Run("Promise 20, wrong").fails(BAD, "span(0, 1); span(8, 1); span(-1, 1)");
    }

    private static void cutting() {
        new Run("Promise 21").does("cuts() = 0; told(4) = 1; rule(0, 1) = 1; letter(0, 1, 0, 0, 0) = 1; letter(0, 2, 5, 0, 0) = 1;"
                + "letter(0, 3, 0, 1, 2) = 1; cuts() = 0; rule(0, 2) = 2; sets(0, 6, 5) = 0; cuts() = 1; count(1) = 2; flow(0, 1) = 1;"
                + "flow(1, 1) = 3;"
                + "sets(0, 9, 0) = 2; sets(0, 6, 0) = 5; sets(0, 8, 0) = 2; cuts() = 1; flow(0, 1) = 3; count(9) = 0; of(0, 10) = 0; of(1, 10) = 3;"
                + "sets(0, 9, 1) = 0; drops(1) = 1; cuts() = 1; count(1) = 0");
        // the case of a flow is the opener's, whoever sends
        new Run("Promise 21, the case").does("rule(0, 1) = 1; letter(3, 5, 0, 0, 0) = 1; letter(5, 3, 0, 0, 1) = 1; sets(0, 3, 3) = 31; cuts() = 0;"
                + "sets(0, 2, 3) = 0; cuts() = 0; sets(0, 5, 4) = 31; cuts() = 1");
        new Run("Promise 21, zones").does("rule(0, 1) = 1; sets(0, 1, 0) = 6; letter(3, 5, 0, 0, 0) = 1; zone(1, 5, 5) = 1; cuts() = 1");
    }

    private static void askingFlows() {
        Run run = new Run("Promise 22").does("flow(0, 6) = -1; flow(2147483647, 0) = -1; rule(0, 1) = 1;" + TO_STAGE[3]
                + "ticks(2) = 1; letter(5, 3, 2, 0, 3) = 1; letter(9, 8, 7, 1, 2) = 1; flow(0, 0) = 3; flow(0, 1) = 5; flow(0, 2) = 2;"
                + "flow(0, 3) = 0;"
                + "flow(0, 4) = 4; flow(0, 5) = 12; flow(0, 6) = 1; flow(1, 0) = 9; flow(1, 1) = 8; flow(1, 2) = 7; flow(1, 3) = 1; flow(1, 4) = 6;"
                + "flow(1, 5) = 10; flow(1, 6) = -1; flow(2, 0) = -1; flow(8, 0) = -1; told(0) = 0");
        run.fails(BAD, "flow(-1, 0); flow(0, -1); flow(0, 7); flow(9, 7); flow(-2147483648, 6)");
    }

    private static void counts() {
        new Run("Promise 23").does("rule(0, 1) = 1; rule(0, 2) = 2; sets(0, 6, 9) = 0; rule(0, 0) = 3; sets(0, 6, 12) = 0;" + TO_STAGE[3]
                + "letter(1, 2, 12, 0, 0) = 0; letter(1, 2, 9, 0, 0) = 2; letter(1, 2, 9, 1, 2) = 2; letter(1, 2, 0, 1, 4) = 3;"
                + "letter(1, 2, 0, 1, 1) = 3;"
                + "letter(1, 2, 0, 1, 0) = 3; announces(0, 0, 1) = 1; announces(0, 0, 1) = 2; letter(8, 8, 0, 0, 0) = 1; ticks(7) = 1; count(0) = 3;"
                + "count(1) = 1; count(2) = 2; count(3) = 7; count(4) = 4; count(5) = 1; count(6) = 2; count(7) = 3; count(8) = 0; count(9) = 1")
                .fails(BAD, "count(-1); count(10)");
    }
}
