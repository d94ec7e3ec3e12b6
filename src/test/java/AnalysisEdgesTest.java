/**
 * The boundary cases that the document names about what rules do: the order of cases and the
 * promises 11 to 16. Each run bears the sentence that it holds.
 */
public final class AnalysisEdgesTest {
    private static final int BAD = -2;

    public static void main(String[] args) {
        decidesArguments();
        decidesNone();
        casesArguments();
        casesFewAndMany();
        idleArguments();
        idleAllButOne();
        idleWithoutIt();
        contradictsArguments();
        contradictsSame();
        contradictsFewAndMany();
        changeArguments();
        changeNone();
        changeOne();
        changeAll();
        changeOrder();
        changeZones();
        allArguments();
        allOrNone();
        Run.end();
    }

    /** Calls that make a rule fit one case alone. */
    private static String onlyCase(int r, int source, int goal, int port, int sort) {
        return "sets(" + r + ", 2, " + source + ") = 0; sets(" + r + ", 3, " + source + ") = 31; sets(" + r + ", 4, " + goal + ") = 0;"
                + "sets(" + r + ", 5, " + goal
                + ") = 31; sets(" + r + ", 6, " + port + ") = 0; sets(" + r + ", 7, " + port + ") = 15; sets(" + r + ", 8, " + sort + ") = 2;";
    }

    // ---- promise 11

    private static void decidesArguments() {
        String[] kinds = {"source: 0 to 31", "goal: 0 to 31", "port: 0 to 15", "sort: 0 or 1"};
        String[] calls = {"decides(#, 1, 1, 1)", "decides(1, #, 1, 1)", "decides(1, 1, #, 1)", "decides(1, 1, 1, #)"};
        int[] greatest = {31, 31, 15, 1};
        for (int k = 0; k < 4; k++) {
            new Run("Promise 11: '" + kinds[k] + "'").does("rule(0, 1) = 1").each(calls[k].replace("#", "0") + " = 0;"
                    + calls[k].replace("#", "" + greatest[k]) + " = 0")
                    .beyond(calls[k], 0, greatest[k]);
        }
        new Run("Promise 11: the first and the last case").does("rule(0, 0) = 1; decides(0, 0, 0, 0) = 0; decides(31, 31, 15, 1) = 0");
    }

    private static void decidesNone() {
        new Run("Promise 11: 'NONE if no rule fits', there is none").does("decides(0, 0, 0, 0) = -1; decides(31, 31, 15, 1) = -1; told(0) = 0;"
                + "told(1) = 0; told(2) = 0")
                .fails(BAD, "decides(32, 0, 0, 0); decides(0, 0, 0, 2)");
        new Run("Promise 11: 'NONE if no rule fits', all but one case").does("rule(0, 1) = 1;" + onlyCase(0, 9, 8, 7, 0) + "decides(9, 8, 7, 0) = 0;"
                + "decides(9, 8, 7, 1) = -1;"
                + "decides(9, 8, 6, 0) = -1; decides(9, 9, 7, 0) = -1; decides(8, 8, 7, 0) = -1; decides(8, 9, 7, 0) = -1; told(0) = 0");
        new Run("Promise 11: it asks, and hits do not increase").does("rule(0, 1) = 1; decides(0, 0, 0, 0) = 0; of(0, 10) = 0; told(4) = 1");
    }

    // ---- promise 12

    private static void casesArguments() {
        new Run("Promise 12: 'r: a rule', there is none").beyond("cases(#, 0)", 0, -1).beyond("cases(#, 1)", 0, -1);
        new Run("Promise 12: 'r: a rule'").does("rule(0, 1) = 1; rule(1, 1) = 2").each("cases(0, 0) = 32768; cases(1, 0) = 0; cases(1, 1) = 32768")
                .beyond("cases(#, 1)", 0, 1);
        new Run("Promise 12: 'what: 0 decides, 1 fits'").does("rule(0, 1) = 1; rule(1, 1) = 2").each("cases(1, 0) = 0; cases(1, 1) = 32768")
                .beyond("cases(0, #)", 0, 1);
    }

    private static void casesFewAndMany() {
        new Run("Promise 12: one case, the first").does("rule(0, 1) = 1;" + onlyCase(0, 0, 0, 0, 0) + "cases(0, 0) = 1; cases(0, 1) = 1;"
                + "rule(1, 1) = 2; cases(1, 0) = 32767; cases(1, 1) = 32768");
        new Run("Promise 12: one case, the last").does("rule(0, 1) = 1;" + onlyCase(0, 31, 31, 15, 1) + "cases(0, 0) = 1; cases(0, 1) = 1;"
                + "rule(1, 1) = 2; cases(1, 0) = 32767;"
                + "rule(0, 0) = 3; cases(0, 0) = 32768; cases(1, 0) = 0; cases(1, 1) = 1; cases(2, 0) = 0");
        new Run("Promise 12: the twelfth rule decides what the eleven before it leave")
                .does(elevenPorts() + "rule(11, 1) = 12; cases(11, 0) = 10240; cases(11, 1) = 32768; cases(10, 0) = 2048");
        new Run("Promise 12: a zone without an address").does("rule(0, 1) = 1; sets(0, 0, 5) = 6; cases(0, 1) = 0; zone(5, 31, 31) = 1;"
                + "cases(0, 1) = 1024; cases(0, 0) = 1024");
    }

    private static String elevenPorts() {
        StringBuilder calls = new StringBuilder();
        for (int r = 0; r < 11; r++) {
            calls.append("rule(" + r + ", 1) = " + (r + 1) + "; sets(" + r + ", 6, " + r + ") = 0; sets(" + r + ", 7, " + r + ") = 15;");
        }
        return calls.toString();
    }

    // ---- promise 13

    private static void idleArguments() {
        new Run("Promise 13: 'r: a rule', there is none").beyond("idle(#, 0)", 0, -1).beyond("idle(#, 1)", 0, -1);
        new Run("Promise 13: 'r: a rule'").does("rule(0, 1) = 1; rule(1, 1) = 2").each("idle(0, 0) = 0; idle(1, 0) = 1").beyond("idle(#, 0)", 0, 1);
        new Run("Promise 13: 'what: 0 .. 1'").does("rule(0, 1) = 1; rule(1, 1) = 2").each("idle(0, 0) = 0; idle(0, 1) = 1")
                .beyond("idle(0, #)", 0, 1);
    }

    private static void idleAllButOne() {
        new Run("Promise 13: 'whether there is no case that it decides', but the last one").does("rule(0, 1) = 1; sets(0, 8, 0) = 2; rule(1, 1) = 2;"
                + "sets(1, 7, 14) = 15;"
                + "rule(2, 1) = 3; sets(2, 5, 30) = 31; rule(3, 1) = 4; sets(3, 3, 30) = 31; rule(4, 1) = 5; idle(4, 0) = 0; cases(4, 0) = 1;"
                + "idle(4, 1) = 0;"
                + "sets(3, 3, 31) = 30; idle(4, 0) = 1; cases(4, 0) = 0; idle(4, 1) = 1");
        new Run("Promise 13: 'whether there is no case that it decides', but the first one").does("rule(0, 1) = 1; sets(0, 8, 1) = 2;"
                + "rule(1, 1) = 2; sets(1, 6, 1) = 0;"
                + "rule(2, 1) = 3; sets(2, 4, 1) = 0; rule(3, 1) = 4; sets(3, 2, 1) = 0; rule(4, 2) = 5; idle(4, 0) = 0; cases(4, 0) = 1;"
                + "idle(4, 1) = 0;"
                + "sets(3, 2, 0) = 1; idle(4, 0) = 1; idle(4, 1) = 1");
    }

    private static void idleWithoutIt() {
        // alone, a deny changes nothing; an allow or a reject does
        new Run("Promise 13: 'whether without it every case would have the same action', the only rule")
                .does("rule(0, 0) = 1; idle(0, 1) = 1; idle(0, 0) = 0;"
                + "sets(0, 9, 1) = 0; idle(0, 1) = 0; sets(0, 9, 2) = 1; idle(0, 1) = 0");
        // the rule behind it does the same for all cases but one
        for (int k = 0; k < 2; k++) {
            String one = k == 0 ? onlyCase(1, 0, 0, 0, 0) : onlyCase(1, 31, 31, 15, 1);
            new Run("Promise 13: 'every case would have the same action', all but one").does("rule(0, 1) = 1; rule(1, 2) = 2; rule(2, 1) = 3;" + one
                    + "idle(0, 1) = 0; idle(1, 1) = 1; idle(2, 1) = 1; sets(1, 9, 1) = 2; idle(0, 1) = 1; sets(1, 9, 0) = 1; idle(0, 1) = 0");
        }
        new Run("Promise 13: 'without it', the twelfth rule").does(elevenPorts() + "rule(11, 1) = 12; sets(11, 6, 11) = 0; idle(11, 1) = 0;"
                + "idle(11, 0) = 0; sets(11, 6, 0) = 11; sets(11, 7, 10) = 15; idle(11, 1) = 1; idle(11, 0) = 1; idle(0, 1) = 1");
        new Run("Promise 13: the rule itself stays").does("rule(0, 1) = 1; rule(1, 1) = 2; idle(0, 1) = 1; idle(1, 1) = 1; count(0) = 2;"
                + "cases(0, 0) = 32768; told(4) = 2");
    }

    // ---- promise 14

    private static void contradictsArguments() {
        new Run("Promise 14: 'q: a rule', there is none").beyond("contradicts(#, 0)", 0, -1);
        new Run("Promise 14: 'q: a rule'").does("rule(0, 1) = 1; rule(1, 2) = 2; rule(2, 0) = 3")
                .each("contradicts(0, 1) = 32768; contradicts(2, 1) = 32768").beyond("contradicts(#, 1)", 0, 2);
        new Run("Promise 14: 'r: another rule'").does("rule(0, 1) = 1; rule(1, 2) = 2; rule(2, 0) = 3")
                .each("contradicts(1, 0) = 32768; contradicts(1, 2) = 32768").beyond("contradicts(1, #)", 0, 2);
    }

    private static void contradictsSame() {
        new Run("Promise 14: 'BAD, also if both are the same'").does("rule(0, 1) = 1").fails(BAD, "contradicts(0, 0)").does("rule(1, 2) = 2")
                .fails(BAD, "contradicts(0, 0); contradicts(1, 1); contradicts(2, 2); contradicts(-1, -1)")
                .does("contradicts(0, 1) = 32768; told(0) = 5");
        new Run("Promise 14: '0 if the actions are equal'").does("rule(0, 0) = 1; rule(1, 0) = 2; contradicts(0, 1) = 0; sets(0, 9, 1) = 0;"
                + "contradicts(0, 1) = 32768;"
                + "sets(1, 9, 1) = 0; contradicts(0, 1) = 0; sets(1, 9, 2) = 1; contradicts(0, 1) = 32768; sets(0, 9, 2) = 1; contradicts(1, 0) = 0;"
                + "told(0) = 0");
    }

    private static void contradictsFewAndMany() {
        new Run("Promise 14: ranges that touch in one case, and ranges beside each other")
                .does("rule(0, 1) = 1; rule(1, 2) = 2;" + onlyCase(0, 4, 5, 6, 1)
                + "contradicts(0, 1) = 1; sets(1, 2, 4) = 0; contradicts(1, 0) = 1; sets(1, 2, 5) = 4; contradicts(0, 1) = 0; sets(1, 2, 0) = 5;"
                + "sets(1, 3, 4) = 31;"
                + "contradicts(0, 1) = 1; sets(1, 3, 3) = 4; contradicts(0, 1) = 0; sets(1, 3, 31) = 3; sets(1, 7, 6) = 15; contradicts(0, 1) = 1;"
                + "sets(1, 7, 5) = 6;"
                + "contradicts(0, 1) = 0; sets(1, 7, 15) = 5; sets(1, 8, 0) = 2; contradicts(0, 1) = 0; sets(1, 8, 1) = 0; contradicts(0, 1) = 1");
        new Run("Promise 14: cases that a rule before both decides count too").does("rule(0, 0) = 1; rule(1, 1) = 2; rule(2, 2) = 3;"
                + "contradicts(1, 2) = 32768; cases(1, 0) = 0; cases(2, 0) = 0");
        new Run("Promise 14: the eleventh and twelfth rule").does(elevenPorts() + "rule(11, 2) = 12; contradicts(10, 11) = 2048;"
                + "contradicts(11, 10) = 2048").fails(BAD, "contradicts(11, 12); contradicts(11, 11)");
    }

    // ---- promise 15

    private static void changeArguments() {
        new Run("Promise 15: 'what: 0 .. 6'").does("rule(0, 2) = 1").each("change(0) = 32768; change(6) = 2").beyond("change(#)", 0, 6);
        new Run("Promise 15: 'what: 0 .. 6', without rules").each("change(0) = 0; change(6) = -1").beyond("change(#)", 0, 6);
    }

    private static void changeNone() {
        new Run("Promise 15: 'NONE for 1 to 6 if there is no such case'").does("change(0) = 0; change(1) = -1; change(2) = -1; change(3) = -1;"
                + "change(4) = -1; change(5) = -1; change(6) = -1;"
                + "told(0) = 0; told(1) = 0; told(2) = 0; told(4) = 0");
        new Run("Promise 15: a deny against none kept is no change").does("rule(0, 0) = 1; change(0) = 0; change(1) = -1; keeps() = 1; drops(0) = 0;"
                + "change(0) = 0; change(5) = -1");
        new Run("Promise 15: the same rules kept").does("rule(0, 1) = 1; keeps() = 1; letter(0, 0, 0, 0, 0) = 1; change(0) = 0; change(6) = -1;"
                + "sets(0, 9, 2) = 1; change(0) = 32768;"
                + "change(5) = 1; change(6) = 2; sets(0, 9, 0) = 2; change(5) = 1; change(6) = 0");
    }

    private static void changeOne() {
        new Run("Promise 15: one case, the first").does("rule(0, 1) = 1;" + onlyCase(0, 0, 0, 0, 0) + "change(0) = 1; change(1) = 0; change(2) = 0;"
                + "change(3) = 0; change(4) = 0; change(5) = 0; change(6) = 1");
        new Run("Promise 15: one case, the last").does("rule(0, 1) = 1;" + onlyCase(0, 31, 31, 15, 1) + "keeps() = 1; drops(0) = 0; change(0) = 1;"
                + "change(1) = 31; change(2) = 31; change(3) = 15; change(4) = 1;"
                + "change(5) = 1; change(6) = 0");
    }

    private static void changeAll() {
        new Run("Promise 15: all cases").does("rule(0, 2) = 1; change(0) = 32768; change(1) = 0; change(2) = 0; change(3) = 0; change(4) = 0;"
                + "change(5) = 0; change(6) = 2");
        new Run("Promise 15: all cases but the first").does("rule(0, 0) = 1; rule(1, 1) = 2;" + onlyCase(0, 0, 0, 0, 0) + "change(0) = 32767;"
                + "change(1) = 0; change(2) = 0; change(3) = 0; change(4) = 1; change(5) = 0; change(6) = 1");
    }

    /** Two changed cases of which each is the smaller one in some parts: the earlier part wins. */
    private static void changeOrder() {
        int[][][] pairs = {
            {{3, 31, 15, 1}, {4, 0, 0, 0}},
            {{3, 4, 15, 1}, {3, 5, 0, 0}},
            {{3, 4, 5, 1}, {3, 4, 6, 0}},
            {{3, 4, 5, 0}, {3, 4, 5, 1}},
        };
        for (int[][] pair : pairs) {
            for (int swap = 0; swap < 2; swap++) {
                int[] p = pair[swap];
                int[] q = pair[1 - swap];
                Run run = new Run("Rules: 'cases are ordered by source, then goal, then port, then sort' (promise 15)")
                        .does("rule(0, 1) = 1; rule(1, 1) = 2;"
                        + onlyCase(0, p[0], p[1], p[2], p[3]) + onlyCase(1, q[0], q[1], q[2], q[3]) + "change(0) = 2");
                for (int what = 1; what <= 4; what++) {
                    run.does("change(" + what + ") = " + pair[0][what - 1]);
                }
            }
        }
    }

    private static void changeZones() {
        new Run("Promise 15: '(with the present zones)'").does("zone(1, 3, 3) = 1; rule(0, 1) = 1; sets(0, 0, 1) = 6; keeps() = 1; drops(0) = 0;"
                + "change(0) = 1024; change(1) = 3;"
                + "zone(0, 3, 3) = 1; change(0) = 0; change(1) = -1; zone(1, 30, 31) = 2; change(0) = 2048; change(1) = 30");
    }

    // ---- promise 16

    private static void allArguments() {
        new Run("Promise 16: 'a: the action, 0 to 2'").does("rule(0, 2) = 1; sets(0, 8, 1) = 2").each("all(0) = 16384; all(1) = 0; all(2) = 16384")
                .beyond("all(#)", 0, 2);
    }

    private static void allOrNone() {
        for (int action = 0; action <= 2; action++) {
            Run run = new Run("Promise 16: all cases or none").does("rule(0, " + action + ") = 1");
            for (int a = 0; a <= 2; a++) {
                run.does("all(" + a + ") = " + (a == action ? 32768 : 0));
            }
        }
        new Run("Promise 16: without rules all cases are denied").does("all(0) = 32768; all(1) = 0; all(2) = 0");
        new Run("Promise 16: one case").does("rule(0, 2) = 1;" + onlyCase(0, 31, 0, 15, 0) + "all(2) = 1; all(0) = 32767; all(1) = 0;"
                + "rule(1, 1) = 2; all(1) = 32767; all(0) = 0; all(2) = 1");
    }
}
