/**
 * The boundary cases that the document names about rules: its head 'Rules' and the promises
 * 1 to 10. Each run bears the sentence that it holds.
 */
public final class RulesEdgesTest {
    private static final int BAD = -2, FULL = -4;
    private static final int[] GREATEST = {6, 6, 31, 31, 31, 31, 15, 15, 2, 2};
    private static final int[] ANY = {6, 6, 0, 31, 0, 31, 0, 15, 2, 1};

    public static void main(String[] args) {
        newObject();
        objectsApart();
        zonesAtFirst();
        anyZone();
        zonesOfTheEnds();
        leastAndGreatest();
        emptyRanges();
        sorts();
        firstThatFits();
        noneFits();
        zoneNumber();
        zoneAddresses();
        zoneAnswers();
        zoneOfAddress();
        ruleNumbers();
        ruleActions();
        ruleFull();
        setsRule();
        setsWhat();
        setsValues();
        dropsRule();
        dropsAll();
        movesNumbers();
        movesFar();
        movesNowhere();
        ofNumbers();
        ofHits();
        keepsNone();
        keepsFull();
        keepsInPlace();
        takesNeverKept();
        takesFull();
        takesAgain();
        Run.end();
    }

    /** A run whose list has n rules, each of which allows at the port of its number alone. */
    private static Run withRules(String name, int n) {
        Run run = new Run(name);
        for (int r = 0; r < n; r++) {
            run.does("rule(" + r + ", 1) = " + (r + 1) + "; sets(" + r + ", 6, " + r + ") = 0; sets(" + r + ", 7, " + r + ") = 15");
        }
        return run;
    }

    // ---- promise 1

    private static void newObject() {
        new Run("Promise 1: 'without rules'").does("count(0) = 0; all(0) = 32768; decides(0, 0, 0, 0) = -1").fails(BAD, "of(0, 0)");
        new Run("Promise 1: 'without .. flows'").does("count(1) = 0; flow(0, 0) = -1; flow(0, 4) = -1; cuts() = 0").fails(BAD, "announces(0, 0, 0)");
        new Run("Promise 1: 'with an empty text'").does("told(3) = 0; reads() = 0; clear() = 0; type(59) = 1");
        new Run("Promise 1: no announcement, no time, no letters").does("count(2) = 0; count(3) = 0; count(4) = 0; count(5) = 0;"
                + "count(6) = 0; count(7) = 0; count(8) = 0; count(9) = 0");
        new Run("Promise 1: no error, no remembered state").does("told(0) = 0; told(1) = 0; told(2) = 0; told(4) = 0; back() = -3; told(1) = 1");
    }

    private static void objectsApart() {
        withRules("Promise 1: an object that is used", 12).does("keeps() = 12; zone(5, 0, 31) = 32; span(1, 100) = 5; type(100) = 1; ticks(7) = 0;"
                + "letter(0, 0, 0, 0, 0) = 1; letter(0, 0, 0, 0, 0) = 3; told(9) = -2");
        new Run("Promise 1: a new object beside a used one").does("count(0) = 0; takes() = 0; zoneOf(31) = 0; span(1, 1) = 5; told(3) = 0;"
                + "count(3) = 0;"
                + "count(1) = 0; count(4) = 0; count(7) = 0; told(0) = 0; told(4) = 2");
    }

    // ---- the head 'Rules'

    private static void zonesAtFirst() {
        Run run = new Run("Rules: 'addresses 0 to 31, each in a zone from 0 to 5 (at first 0)'");
        for (int a = 0; a < 32; a++) {
            run.does("zoneOf(" + a + ") = 0");
        }
        for (int z = 0; z <= 5; z++) {
            run.does("zone(" + z + ", " + z + ", " + z + ") = " + (z == 0 ? 0 : 1) + "; zoneOf(" + z + ") = " + z);
        }
    }

    private static void anyZone() {
        for (int end = 0; end <= 1; end++) {
            Run run = new Run("Rules: 'the zone of the source and that of the goal (0 to 5, or 6 for any zone)'").does("rule(0, 1) = 1");
            for (int z = 0; z <= 5; z++) {
                run.does("zone(" + z + ", " + z + ", " + z + ") = " + (z == 0 ? 0 : 1));
            }
            for (int wanted = 0; wanted <= 6; wanted++) {
                run.does("sets(0, " + end + ", " + wanted + ") = " + (wanted == 0 ? 6 : wanted - 1));
                for (int a = 0; a <= 5; a++) {
                    String ends = end == 0 ? a + ", 31" : "31, " + a;
                    run.does("decides(" + ends + ", 0, 0) = " + (wanted == 6 || wanted == a ? 0 : -1));
                }
            }
        }
    }

    private static void zonesOfTheEnds() {
        new Run("Rules: the zones of the first and the last address").does("zone(1, 0, 0) = 1; zone(2, 31, 31) = 1; rule(0, 1) = 1;"
                + "sets(0, 0, 1) = 6; sets(0, 1, 2) = 6; decides(0, 31, 0, 0) = 0; decides(0, 30, 0, 0) = -1;"
                + "decides(1, 31, 0, 0) = -1; decides(31, 0, 0, 0) = -1; cases(0, 1) = 32; letter(0, 31, 0, 0, 0) = 1; letter(0, 30, 0, 0, 0) = 0;"
                + "cuts() = 0; zone(0, 31, 31) = 1; cuts() = 1");
    }

    /** The two ends of a range fit, the numbers beside them don't; and so at the ends of all numbers. */
    private static void leastAndGreatest() {
        String[] names = {"'2 and 3 the least and greatest source'", "'4 and 5 the least and greatest goal'", "'6 and 7 the least and greatest port'"};
        for (int kind = 0; kind < 3; kind++) {
            int last = kind == 2 ? 15 : 31;
            int[][] ranges = {{0, 0}, {0, 1}, {last, last}, {last - 1, last}, {5, 5}, {4, 9}, {0, last}};
            for (int[] range : ranges) {
                Run run = new Run("Rules: " + names[kind]).does("rule(0, 1) = 1");
                run.does("sets(0, " + (2 + 2 * kind) + ", " + range[0] + ") = 0; sets(0, " + (3 + 2 * kind) + ", " + range[1] + ") = " + last);
                for (int v = 0; v <= last; v++) {
                    run.does(decidesAt(kind, v) + " = " + (v >= range[0] && v <= range[1] ? 0 : -1));
                }
                run.does("cases(0, 1) = " + (range[1] - range[0] + 1) * 32768 / (last + 1));
            }
        }
    }

    private static String decidesAt(int kind, int v) {
        switch (kind) {
            case 0: return "decides(" + v + ", 7, 7, 0)";
            case 1: return "decides(7, " + v + ", 7, 0)";
            default: return "decides(7, 7, " + v + ", 0)";
        }
    }

    private static void emptyRanges() {
        for (int kind = 0; kind < 3; kind++) {
            int last = kind == 2 ? 15 : 31;
            String least = "sets(0, " + (2 + 2 * kind) + ", ";
            String greatest = "sets(0, " + (3 + 2 * kind) + ", ";
            Run run = new Run("Rules: 'none fits if a least number is greater than the greatest one'");
            run.does("rule(0, 1) = 1;" + least + "6) = 0;" + greatest + "6) = " + last + "; cases(0, 1) = " + 32768 / (last + 1) + ";"
                    + decidesAt(kind, 6) + " = 0");
            run.does(greatest + "5) = 6; cases(0, 1) = 0; cases(0, 0) = 0; idle(0, 0) = 1; idle(0, 1) = 1; all(1) = 0;"
                    + decidesAt(kind, 5) + " = -1;"
                    + decidesAt(kind, 6) + " = -1");
            run.does(least + last + ") = 6;" + greatest + "0) = 5; cases(0, 1) = 0;"
                    + decidesAt(kind, 0) + " = -1;" + decidesAt(kind, last) + " = -1");
        }
    }

    private static void sorts() {
        new Run("Rules: '8 the sort (0, 1, or 2 for both)'").does("rule(0, 1) = 1; sets(0, 8, 0) = 2; decides(0, 0, 0, 0) = 0;"
                + "decides(0, 0, 0, 1) = -1;"
                + "cases(0, 1) = 16384; sets(0, 8, 1) = 0; decides(0, 0, 0, 0) = -1; decides(0, 0, 0, 1) = 0; cases(0, 1) = 16384;"
                + "sets(0, 8, 2) = 1; decides(0, 0, 0, 0) = 0; decides(0, 0, 0, 1) = 0; cases(0, 1) = 32768");
    }

    private static void firstThatFits() {
        withRules("Rules: 'The first rule that fits a case decides it', the twelfth too", 12)
                .does("decides(1, 2, 0, 0) = 0; decides(1, 2, 11, 0) = 11;"
                + "decides(1, 2, 12, 0) = -1; sets(10, 7, 11) = 10; decides(1, 2, 11, 0) = 10; sets(0, 7, 15) = 0; decides(1, 2, 11, 0) = 0");
        new Run("Rules: 'its action is the action of the case', for each action").does("rule(0, 0) = 1; rule(1, 1) = 2; letter(1, 2, 0, 0, 0) = 0;"
                + "sets(0, 9, 2) = 0; letter(1, 2, 0, 0, 0) = 2; sets(0, 9, 1) = 2; sets(1, 9, 0) = 1; letter(1, 2, 0, 0, 0) = 1");
        new Run("Rules: a source and a goal, 'possibly the same'").does("rule(0, 1) = 1; sets(0, 3, 0) = 31; sets(0, 5, 0) = 31;"
                + "decides(0, 0, 0, 0) = 0;"
                + "cases(0, 1) = 32; change(1) = 0; change(2) = 0; letter(0, 0, 0, 0, 0) = 1; flow(0, 0) = 0; flow(0, 1) = 0");
    }

    private static void noneFits() {
        new Run("Rules: 'if none fits, the action is deny'").does("letter(0, 1, 2, 0, 0) = 0; count(5) = 1; rule(0, 1) = 1; sets(0, 6, 3) = 0;"
                + "letter(0, 1, 2, 0, 0) = 0; count(5) = 2; of(0, 10) = 0; letter(0, 1, 3, 0, 0) = 1; of(0, 10) = 1; all(0) = 6144");
        new Run("Rules: 'if none fits, the action is deny', in an empty list").does("all(0) = 32768; all(1) = 0; all(2) = 0;"
                + "letter(9, 9, 9, 1, 2) = 0");
    }

    // ---- promises 2 and 3

    private static void zoneNumber() {
        new Run("Promise 2: 'z: 0 to 5'").each("zone(0, 3, 4) = 0; zone(1, 3, 4) = 2; zone(5, 3, 4) = 2").beyond("zone(#, 3, 4)", 0, 5);
    }

    private static void zoneAddresses() {
        new Run("Promise 2: 'a: the first address, 0 to b'").each("zone(1, 0, 7) = 8; zone(1, 7, 7) = 1").beyond("zone(1, #, 7)", 0, 7);
        new Run("Promise 2: 'b: the last address, a to 31'").each("zone(1, 7, 7) = 1; zone(1, 7, 31) = 25").beyond("zone(1, 7, #)", 7, 31);
        new Run("Promise 2: the first and the last address alone").each("zone(1, 0, 0) = 1; zone(1, 31, 31) = 1; zone(1, 0, 31) = 32")
                .fails(BAD, "zone(1, -1, -1); zone(1, 32, 32); zone(1, -1, 31); zone(1, 0, 32); zone(1, 1, 0); zone(1, 31, 30)");
        new Run("Promise 2: the addresses beside them stay").does("zone(2, 5, 7) = 3; zoneOf(4) = 0; zoneOf(5) = 2; zoneOf(7) = 2; zoneOf(8) = 0;"
                + "zone(3, 0, 0) = 1; zoneOf(0) = 3; zoneOf(1) = 0; zone(4, 31, 31) = 1; zoneOf(31) = 4; zoneOf(30) = 0");
    }

    private static void zoneAnswers() {
        new Run("Promise 2: 'how many of them were not in this zone before'").does("zone(2, 0, 31) = 32; zone(2, 0, 31) = 0; zone(1, 10, 12) = 3;"
                + "zone(2, 0, 31) = 3; zone(1, 0, 15) = 16; zone(1, 15, 16) = 1; zone(0, 16, 16) = 1; zone(0, 16, 16) = 0");
    }

    private static void zoneOfAddress() {
        new Run("Promise 3: 'a: 0 to 31'").does("zone(4, 0, 0) = 1; zone(5, 31, 31) = 1").each("zoneOf(0) = 4; zoneOf(31) = 5; zoneOf(1) = 0;"
                + "zoneOf(30) = 0")
                .beyond("zoneOf(#)", 0, 31);
    }

    // ---- promise 4

    private static void ruleNumbers() {
        new Run("Promise 4: 'at: the number that it gets, 0 to the number of rules', in an empty list").each("rule(0, 1) = 1")
                .beyond("rule(#, 1)", 0, 0);
        withRules("Promise 4: 'at: .. 0 to the number of rules'", 3).each("rule(0, 2) = 4; rule(2, 2) = 4; rule(3, 2) = 4")
                .beyond("rule(#, 1)", 0, 3);
        withRules("Promise 4: 'the number that it gets', the first", 2).does("rule(0, 2) = 3; of(0, 9) = 2; of(1, 6) = 0; of(2, 6) = 1");
        withRules("Promise 4: 'the number that it gets', between two", 2).does("rule(1, 2) = 3; of(0, 6) = 0; of(1, 9) = 2; of(2, 6) = 1");
        withRules("Promise 4: 'the number that it gets', the last", 2).does("rule(2, 2) = 3; of(0, 6) = 0; of(1, 6) = 1; of(2, 9) = 2");
    }

    private static void ruleActions() {
        new Run("Promise 4: 'action: 0 to 2'").each("rule(0, 0) = 1; rule(0, 1) = 1; rule(0, 2) = 1").beyond("rule(0, #)", 0, 2);
        new Run("Promise 4: 'for any zones, all addresses, all ports and both sorts, with 0 hits'").does("rule(0, 2) = 1")
                .hasRule(0, 6, 6, 0, 31, 0, 31, 0, 15, 2, 2, 0);
    }

    private static void ruleFull() {
        withRules("Promise 4: 'FULL if there are already 12', the twelfth", 11).each("rule(0, 1) = 12; rule(11, 1) = 12").beyond("rule(#, 0)", 0, 11);
        withRules("Promise 4: 'FULL if there are already 12'", 12).fails(FULL, "rule(0, 1); rule(5, 1); rule(12, 1)")
                .does("told(2) = 3; count(0) = 12")
                .fails(BAD, "rule(13, 1); rule(-1, 1); rule(0, 3); rule(12, -1)").does("told(0) = 4; told(2) = 3; drops(11) = 11; rule(11, 1) = 12;"
                + "rule(12, 1) = -4");
    }

    // ---- promise 5

    private static void setsRule() {
        new Run("Promise 5: 'r: a rule', there is none").beyond("sets(#, 9, 1)", 0, -1);
        withRules("Promise 5: 'r: a rule'", 3).each("sets(0, 9, 2) = 1; sets(2, 9, 2) = 1").beyond("sets(#, 9, 2)", 0, 2);
        withRules("Promise 5: 'r: a rule', the twelfth", 12).each("sets(11, 9, 2) = 1").fails(BAD, "sets(12, 9, 2)");
    }

    private static void setsWhat() {
        withRules("Promise 5: 'what: 0 to 9'", 1).each("sets(0, 0, 1) = 6; sets(0, 9, 0) = 1").beyond("sets(0, #, 0)", 0, 9);
    }

    private static void setsValues() {
        for (int what = 0; what < 10; what++) {
            Run run = new Run("Promise 5: 'v: the new value', for " + what).does("rule(0, 1) = 1");
            String call = "sets(0, " + what + ", #)";
            run.each(call.replace("#", "0") + " = " + ANY[what] + "; " + call.replace("#", "" + GREATEST[what]) + " = " + ANY[what]);
            run.beyond(call, 0, GREATEST[what]);
            run.does(call.replace("#", "0") + " = " + ANY[what] + "; of(0, " + what + ") = 0; " + call.replace("#", "0") + " = 0;"
                    + call.replace("#", "" + GREATEST[what]) + " = 0; of(0, " + what + ") = " + GREATEST[what] + "; told(4) = 4");
        }
    }

    // ---- promises 6 and 7

    private static void dropsRule() {
        new Run("Promise 6: 'r: a rule', there is none").beyond("drops(#)", 0, -1);
        withRules("Promise 6: 'r: a rule'", 3).each("drops(0) = 2; drops(2) = 2").beyond("drops(#)", 0, 2);
        withRules("Promise 6: the first goes", 3).does("drops(0) = 2; of(0, 6) = 1; of(1, 6) = 2").fails(BAD, "of(2, 6); drops(2)");
        withRules("Promise 6: the last goes", 3).does("drops(2) = 2; of(0, 6) = 0; of(1, 6) = 1").fails(BAD, "of(2, 6); drops(2)");
    }

    private static void dropsAll() {
        Run run = withRules("Promise 6: 'Returns how many are left', from twelve to none", 12);
        for (int left = 11; left >= 0; left--) {
            run.does("drops(" + left + ") = " + left);
        }
        run.fails(BAD, "drops(0)").does("count(0) = 0; rule(0, 1) = 1; of(0, 6) = 0");
    }

    private static void movesNumbers() {
        new Run("Promise 7: 'r: a rule', there is none").beyond("moves(#, 0)", 0, -1);
        withRules("Promise 7: 'r: a rule'", 3).each("moves(0, 1) = 0; moves(2, 1) = 2").beyond("moves(#, 1)", 0, 2);
        withRules("Promise 7: 'to: 0 to the number of rules minus 1'", 3).each("moves(1, 0) = 1; moves(1, 2) = 1").beyond("moves(1, #)", 0, 2);
        withRules("Promise 7: 'to: 0 to the number of rules minus 1', of one rule", 1).each("moves(0, 0) = 0").beyond("moves(0, #)", 0, 0);
    }

    private static void movesFar() {
        Run down = withRules("Promise 7: 'so that it gets the number to', from 0 to 11", 12).does("moves(0, 11) = 0; of(11, 6) = 0");
        for (int r = 0; r < 11; r++) {
            down.does("of(" + r + ", 6) = " + (r + 1));
        }
        Run up = withRules("Promise 7: 'so that it gets the number to', from 11 to 0", 12).does("moves(11, 0) = 11; of(0, 6) = 11")
                .fails(BAD, "moves(0, 12); moves(12, 0)");
        for (int r = 1; r < 12; r++) {
            up.does("of(" + r + ", 6) = " + (r - 1));
        }
        new Run("Promise 7: 'Moves a rule', all its numbers").does("rule(0, 1) = 1; rule(1, 2) = 2; sets(0, 0, 1) = 6; sets(0, 1, 2) = 6;"
                + "sets(0, 2, 3) = 0; sets(0, 3, 4) = 31; sets(0, 4, 5) = 0;"
                + "sets(0, 5, 6) = 31; sets(0, 6, 7) = 0; sets(0, 7, 8) = 15; sets(0, 8, 0) = 2; moves(0, 1) = 0")
                .hasRule(0, 6, 6, 0, 31, 0, 31, 0, 15, 2, 2, 0).hasRule(1, 1, 2, 3, 4, 5, 6, 7, 8, 0, 1, 0);
        withRules("Promise 7: 'Moves a rule, with its hits'", 3).does("letter(0, 1, 1, 0, 0) = 1; moves(1, 2) = 1; of(2, 10) = 1; of(1, 10) = 0;"
                + "moves(2, 0) = 2;"
                + "of(0, 10) = 1; of(2, 10) = 0; of(0, 6) = 1");
    }

    private static void movesNowhere() {
        withRules("Promise 7: to its own place", 3).does("moves(0, 0) = 0; moves(1, 1) = 1; moves(2, 2) = 2; of(0, 6) = 0; of(1, 6) = 1;"
                + "of(2, 6) = 2; told(4) = 5");
    }

    // ---- promise 8

    private static void ofNumbers() {
        new Run("Promise 8: 'r: a rule', there is none").beyond("of(#, 0)", 0, -1);
        withRules("Promise 8: 'r: a rule'", 3).each("of(0, 6) = 0; of(2, 6) = 2").beyond("of(#, 6)", 0, 2);
        withRules("Promise 8: 'what: 0 to 9 as told above, 10 its hits'", 1).each("of(0, 0) = 6; of(0, 9) = 1; of(0, 10) = 0")
                .beyond("of(0, #)", 0, 10);
    }

    private static void ofHits() {
        new Run("Promise 8: '10 its hits', many").does("rule(0, 2) = 1; of(0, 10) = 0").repeats(500, "letter(1, 2, 3, 0, 0) = 2")
                .does("of(0, 10) = 500; count(6) = 500");
    }

    // ---- promises 9 and 10

    private static void keepsNone() {
        new Run("Promise 9: 'Returns the number of rules', none").does("keeps() = 0; rule(0, 1) = 1; takes() = 0; count(0) = 0");
    }

    private static void keepsFull() {
        Run run = withRules("Promise 9: 'Returns the number of rules', twelve", 12).does("letter(0, 1, 11, 0, 0) = 1; keeps() = 12; of(11, 10) = 1;"
                + "drops(0) = 11; takes() = 12");
        for (int r = 0; r < 12; r++) {
            run.does("of(" + r + ", 6) = " + r + "; of(" + r + ", 10) = 0");
        }
    }

    private static void keepsInPlace() {
        withRules("Promise 9: 'in place of what was kept before', fewer", 12).does("keeps() = 12; reads() = 0; rule(0, 2) = 1; keeps() = 1;"
                + "takes() = 1; of(0, 9) = 2; count(0) = 1");
        new Run("Promise 9: 'in place of what was kept before', none").does("rule(0, 1) = 1; keeps() = 1; drops(0) = 0; keeps() = 0; rule(0, 2) = 1;"
                + "takes() = 0; count(0) = 0");
        new Run("Promise 9: 'without their hits'").does("rule(0, 2) = 1; letter(0, 0, 0, 0, 0) = 2; keeps() = 1; of(0, 10) = 1; takes() = 1;"
                + "of(0, 10) = 0; letter(0, 0, 0, 0, 0) = 2; of(0, 10) = 1");
        new Run("Promise 9: 'Keeps the rules as they are'").does("rule(0, 1) = 1; keeps() = 1; sets(0, 9, 2) = 1; zone(1, 0, 0) = 1; takes() = 1;"
                + "of(0, 9) = 1; zoneOf(0) = 1");
    }

    private static void takesNeverKept() {
        new Run("Promise 10: 'by none if rules were never kept'").does("takes() = 0; rule(0, 1) = 1; rule(0, 1) = 2; takes() = 0; count(0) = 0")
                .fails(BAD, "of(0, 0)");
        new Run("Promise 10: never kept again after back()").does("rule(0, 1) = 1; keeps() = 1; back() = 1; takes() = 0");
    }

    private static void takesFull() {
        withRules("Promise 10: twelve rules", 12).does("keeps() = 12; reads() = 0; takes() = 12").fails(FULL, "rule(0, 0)").does("of(11, 6) = 11");
    }

    private static void takesAgain() {
        new Run("Promise 10: 'with 0 hits', each time").does("rule(0, 2) = 1; keeps() = 1; letter(0, 0, 0, 0, 0) = 2; of(0, 10) = 1; takes() = 1;"
                + "of(0, 10) = 0;"
                + "letter(0, 0, 0, 0, 0) = 2; takes() = 1; of(0, 10) = 0; count(6) = 2");
    }
}
