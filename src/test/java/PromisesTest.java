import java.util.Arrays;

/**
 * The heads 'Promise 1' to 'Promise 29', sentence by sentence, with ordinary inputs: each run
 * bears the promise and the sentence that it holds. The boundary cases of the same promises
 * stand in the tests whose names end in EdgesTest.
 */
public final class PromisesTest {
    private static final int BAD = -2, NO = -3;

    /** A flow from 1 to 2 at port 3, of sort 0 brought into stage 3 and of sort 1 into stage 7. */
    private static final String STREAM = "letter(1, 2, 3, 0, 0) = 1; letter(2, 1, 3, 0, 1) = 1; letter(1, 2, 3, 0, 2) = 1;";
    private static final String SINGLE = "letter(1, 2, 3, 1, 2) = 1; letter(2, 1, 3, 1, 2) = 1;";

    public static void main(String[] args) {
        newObject();
        zone();
        rule();
        sets();
        drops();
        moves();
        of();
        keepsAndTakes();
        decides();
        cases();
        idle();
        contradicts();
        change();
        all();
        letter();
        announces();
        ticks();
        span();
        cuts();
        flow();
        count();
        typeAndClear();
        reads();
        back();
        told();
        digest();
        Run.end();
    }

    private static Run allowing(String name) {
        return new Run(name).does("rule(0, 1) = 1");
    }

    /** Three rules, for the ports up to 4, up to 9, and all ports. */
    private static Run three(String name) {
        return new Run(name).does("rule(0, 0) = 1; sets(0, 7, 4) = 15; rule(1, 2) = 2; sets(1, 7, 9) = 15; rule(2, 1) = 3");
    }

    private static void newObject() {
        new Run("Promise 1: 'Creates a filter without rules and flows, with an empty text.'").does("count(0) = 0; count(1) = 0; told(3) = 0;"
                + "flow(0, 0) = -1; letter(1, 2, 3, 0, 0) = 0; reads() = 0; clear() = 0").fails(BAD, "of(0, 0); drops(0)");
    }

    // ---- zones and rules

    private static void zone() {
        new Run("Promise 2: 'Puts addresses into a zone.'").does("zone(3, 4, 6) = 3; zoneOf(3) = 0; zoneOf(4) = 3; zoneOf(5) = 3; zoneOf(6) = 3;"
                + "zoneOf(7) = 0; zone(1, 6, 8) = 3; zoneOf(5) = 3; zoneOf(6) = 1; zoneOf(8) = 1; zone(3, 5, 7) = 2; zone(0, 0, 31) = 5");
        Run run = new Run("Promise 3: 'Returns the zone of an address.'");
        for (int a = 0; a < 32; a++) {
            run.does("zone(" + a % 6 + ", " + a + ", " + a + ") = " + (a % 6 == 0 ? 0 : 1));
        }
        for (int a = 0; a < 32; a++) {
            run.asks("zoneOf(" + a + ") = " + a % 6);
        }
    }

    private static void rule() {
        three("Promise 4: 'Inserts a rule for any zones, all addresses, all ports and both sorts, with 0 hits.'")
                .does("letter(1, 2, 7, 0, 0) = 2; rule(1, 0) = 4; count(0) = 4").hasRule(0, 6, 6, 0, 31, 0, 31, 0, 4, 2, 0, 0)
                .hasRule(1, 6, 6, 0, 31, 0, 31, 0, 15, 2, 0, 0).hasRule(2, 6, 6, 0, 31, 0, 31, 0, 9, 2, 2, 1)
                .hasRule(3, 6, 6, 0, 31, 0, 31, 0, 15, 2, 1, 0);
    }

    private static void sets() {
        three("Promise 5: 'Changes a number of a rule.', and nothing else").does("letter(1, 2, 7, 0, 0) = 2; sets(1, 4, 8) = 0; of(1, 4) = 8")
                .hasRule(0, 6, 6, 0, 31, 0, 31, 0, 4, 2, 0, 0).hasRule(1, 6, 6, 0, 31, 8, 31, 0, 9, 2, 2, 1)
                .hasRule(2, 6, 6, 0, 31, 0, 31, 0, 15, 2, 1, 0);
        Run values = allowing("Promise 5: 'v: the new value: 0 to 6 for 0 and 1, 0 to 31 for 2 to 5, 0 to 15 for 6 and 7, 0 to 2 for 8 and 9'");
        int[] any = {6, 6, 0, 31, 0, 31, 0, 15, 2, 1};
        int[] greatest = {6, 6, 31, 31, 31, 31, 15, 15, 2, 2};
        for (int what = 0; what < 10; what++) {
            int before = any[what];
            for (int v = 0; v <= greatest[what]; v++) {
                values.does("sets(0, " + what + ", " + v + ") = " + before);
                before = v;
            }
            values.does("of(0, " + what + ") = " + before).fails(BAD, "sets(0, " + what + ", " + (before + 1) + ")");
        }
        allowing("Promise 5: 'Returns the previous value'").does("sets(0, 2, 5) = 0; sets(0, 2, 9) = 5; sets(0, 2, 9) = 9; sets(0, 3, 9) = 31");
    }

    private static void drops() {
        three("Promise 6: 'Removes a rule.', and the ones behind it get the next smaller number").does("letter(1, 2, 12, 0, 0) = 1; drops(1) = 2;"
                + "count(0) = 2; of(0, 7) = 4; of(1, 7) = 15; of(1, 10) = 1; decides(1, 2, 7, 0) = 1").fails(BAD, "of(2, 0)");
    }

    private static void moves() {
        three("Promise 7: 'it is removed, and then inserted so that it gets the number to', to the end").does("moves(0, 2) = 0; of(0, 7) = 9;"
                + "of(1, 7) = 15; of(2, 7) = 4; decides(1, 2, 3, 0) = 0; decides(1, 2, 12, 0) = 1; cases(2, 0) = 0");
        three("Promise 7: 'it is removed, and then inserted so that it gets the number to', to the front").does("moves(2, 0) = 2; of(0, 7) = 15;"
                + "of(1, 7) = 4; of(2, 7) = 9; decides(1, 2, 3, 0) = 0; idle(1, 0) = 1; idle(2, 0) = 1");
        three("Promise 7: 'Returns r'").each("moves(0, 1) = 0; moves(1, 0) = 1; moves(2, 1) = 2; moves(1, 1) = 1");
    }

    private static void of() {
        three("Promise 8: 'Returns a number of a rule.', the sixth, the ninth and the hits").does("letter(1, 2, 12, 1, 2) = 1; letter(1, 2, 2, 0, 0) = 0")
                .asks("of(0, 7) = 4; of(1, 7) = 9; of(2, 7) = 15; of(0, 9) = 0; of(1, 9) = 2; of(2, 9) = 1; of(0, 10) = 1; of(1, 10) = 0; of(2, 10) = 1");
    }

    private static void keepsAndTakes() {
        three("Promise 9: 'Keeps the rules as they are, without their hits, in place of what was kept before.'")
                .does("keeps() = 3; letter(1, 2, 7, 0, 0) = 2; drops(0) = 2; keeps() = 2; of(0, 10) = 1; reads() = 0; takes() = 2; of(0, 7) = 9;"
                + "of(0, 10) = 0; of(1, 7) = 15");
        three("Promise 10: 'Replaces the rules by the kept ones, with 0 hits', 'Returns the number of rules then.'")
                .does("keeps() = 3; letter(1, 2, 7, 0, 0) = 2; sets(1, 7, 12) = 9; drops(2) = 2; takes() = 3; count(0) = 3")
                .hasRule(0, 6, 6, 0, 31, 0, 31, 0, 4, 2, 0, 0).hasRule(1, 6, 6, 0, 31, 0, 31, 0, 9, 2, 2, 0)
                .hasRule(2, 6, 6, 0, 31, 0, 31, 0, 15, 2, 1, 0).does("drops(0) = 2; takes() = 3");
    }

    // ---- what rules do

    private static void decides() {
        three("Promise 11: 'Returns the rule that decides a case.'").asks("decides(1, 2, 0, 0) = 0; decides(1, 2, 4, 1) = 0; decides(1, 2, 5, 0) = 1;"
                + "decides(1, 2, 9, 1) = 1; decides(1, 2, 10, 0) = 2; decides(2, 1, 15, 1) = 2");
    }

    private static void cases() {
        three("Promise 12: 'Counts the cases that a rule decides or fits.'").asks("cases(0, 0) = 10240; cases(1, 0) = 10240; cases(2, 0) = 12288;"
                + "cases(0, 1) = 10240; cases(1, 1) = 20480; cases(2, 1) = 32768");
    }

    private static void idle() {
        three("Promise 13: 'Tells whether a rule is useless.'").asks("idle(0, 0) = 0; idle(1, 0) = 0; idle(2, 0) = 0; idle(0, 1) = 0; idle(1, 1) = 0;"
                + "idle(2, 1) = 0").does("sets(1, 9, 0) = 2; idle(0, 0) = 0; idle(0, 1) = 1; sets(1, 7, 3) = 9; idle(1, 0) = 1; idle(1, 1) = 1");
    }

    private static void contradicts() {
        three("Promise 14: 'Counts the cases that fit two rules with different actions.'").asks("contradicts(0, 1) = 10240; contradicts(1, 2) = 20480;"
                + "contradicts(2, 0) = 10240").does("sets(0, 9, 1) = 0").asks("contradicts(0, 1) = 10240; contradicts(2, 0) = 0");
    }

    private static void change() {
        three("Promise 15: 'Compares the rules with the kept rules', 'considers the cases whose action is different by both.'")
                .does("keeps() = 3; moves(1, 0) = 1; change(0) = 10240; moves(1, 0) = 1; change(0) = 0; drops(2) = 2; change(0) = 12288");
        three("Promise 15: 'what: 0 the number of these cases; of the first of them: 1 the source, 2 the goal, 3 the port, 4 the sort,"
                + " 5 the action by the kept rules, 6 the action by the rules'").does("keeps() = 3; sets(1, 2, 6) = 0; sets(1, 4, 8) = 0; sets(1, 8, 1) = 2")
                .asks("change(0) = 7120; change(1) = 0; change(2) = 0; change(3) = 5; change(4) = 0; change(5) = 2; change(6) = 1")
                .does("takes() = 3; rule(0, 2) = 4; sets(0, 2, 6) = 0; sets(0, 4, 8) = 0; sets(0, 6, 3) = 0; sets(0, 8, 1) = 2")
                .asks("change(0) = 4992; change(1) = 6; change(2) = 8; change(3) = 3; change(4) = 1; change(5) = 0; change(6) = 2");
    }

    private static void all() {
        three("Promise 16: 'Counts the cases with an action.'").asks("all(0) = 10240; all(1) = 12288; all(2) = 10240").does("drops(2) = 2")
                .asks("all(0) = 22528; all(1) = 0; all(2) = 10240");
    }

    // ---- letters and flows

    private static void letter() {
        three("Promise 17: 'Handles a letter.', 'Returns 1 if it passes, 0 if it is denied, 2 if it is rejected, 3 if it is stray'")
                .does("letter(1, 2, 12, 0, 0) = 1; letter(1, 2, 3, 0, 0) = 0; letter(1, 2, 7, 0, 0) = 2; letter(1, 2, 12, 0, 0) = 3;"
                + "letter(2, 1, 12, 0, 1) = 1; count(4) = 2; count(5) = 1; count(6) = 1; count(7) = 1; count(1) = 1");
    }

    private static void announces() {
        String sentence = "Promise 18: 'Adds an announcement for a flow: that one of its sides will open a flow to the other one, at a port,"
                + " of the sort of the flow.'";
        allowing(sentence).does("letter(4, 5, 6, 0, 0) = 1;" + SINGLE + "announces(1, 0, 7) = 1; drops(0) = 0; letter(2, 1, 7, 0, 0) = 0;"
                + "letter(1, 2, 7, 1, 2) = 0; letter(5, 4, 7, 1, 2) = 0; letter(2, 1, 7, 1, 2) = 1; flow(2, 0) = 2; flow(2, 1) = 1; flow(2, 2) = 7");
        allowing("Promise 18: 'i: index of the flow, in the order in which the present flows were opened, from 0'")
                .does("letter(4, 5, 6, 0, 0) = 1;" + STREAM + "announces(0, 0, 0) = -3; announces(1, 1, 8) = 1; letter(4, 5, 6, 0, 4) = 1;"
                + "announces(0, 1, 9) = 2; announces(1, 1, 9) = -2; drops(0) = 0; letter(1, 2, 8, 0, 0) = 1; letter(1, 2, 9, 0, 0) = 1");
        allowing("Promise 18: 'Returns the number of announcements, this one included'").does(STREAM + SINGLE + "announces(0, 0, 4) = 1;"
                + "announces(1, 0, 4) = 2; announces(0, 1, 4) = 3; letter(2, 1, 4, 0, 0) = 1; announces(0, 0, 4) = 3; count(2) = 3");
    }

    private static void ticks() {
        allowing("Promise 19: 'Lets n units of time go by. Then all flows whose due time is not greater than the time are removed, and all"
                + " announcements that last until a time not greater than it.'").does(STREAM + "announces(0, 0, 9) = 1; letter(4, 5, 6, 0, 0) = 1;"
                + "ticks(3) = 2; count(3) = 3; letter(7, 8, 6, 1, 2) = 1; announces(0, 0, 8) = 2; ticks(7) = 2; count(3) = 10; flow(0, 1) = 2;"
                + "flow(1, 1) = 8; count(2) = 1; count(9) = 1; ticks(30) = 0; count(3) = 40; count(2) = 0; count(9) = 3");
    }

    private static void span() {
        allowing("Promise 20: 'Sets the span of a stage.', 'Returns the previous span'").does("span(2, 30) = 5; span(2, 31) = 30; ticks(2) = 0;"
                + "letter(1, 2, 3, 0, 0) = 1; flow(0, 5) = 7; letter(2, 1, 3, 0, 1) = 1; flow(0, 5) = 33; span(2, 6) = 31; flow(0, 5) = 33");
    }

    private static void cuts() {
        allowing("Promise 21: 'Removes all flows whose case does not have the action allow by the present rules.', 'Returns how many were removed.'")
                .does(STREAM + SINGLE + "letter(4, 5, 6, 0, 0) = 1; letter(7, 8, 9, 1, 2) = 1; rule(0, 0) = 2; sets(0, 2, 4) = 0; sets(0, 3, 6) = 31;"
                + "rule(0, 2) = 3; sets(0, 6, 3) = 0; sets(0, 7, 3) = 15; sets(0, 8, 1) = 2; cuts() = 2; count(1) = 2; flow(0, 0) = 1; flow(0, 3) = 0;"
                + "flow(1, 0) = 7; cuts() = 0; count(9) = 0");
    }

    private static void flow() {
        allowing("Promise 22: 'Returns a property of a flow.', 'what: 0 opener, 1 other side, 2 port, 3 sort, 4 stage, 5 due time, 6 who has ended'")
                .does(STREAM + "ticks(6) = 1; letter(2, 1, 3, 0, 3) = 1; letter(9, 8, 7, 1, 2) = 1")
                .asks("flow(0, 0) = 1; flow(0, 1) = 2; flow(0, 2) = 3; flow(0, 3) = 0; flow(0, 4) = 4; flow(0, 5) = 16; flow(0, 6) = 1;"
                + "flow(1, 0) = 9; flow(1, 1) = 8; flow(1, 2) = 7; flow(1, 3) = 1; flow(1, 4) = 6; flow(1, 5) = 14; flow(1, 6) = -1");
        allowing("Promise 22: 'i: index of the flow, as in announces, 0 or more'").does("letter(4, 5, 6, 0, 0) = 1;" + STREAM + "flow(0, 0) = 4;"
                + "flow(1, 0) = 1; letter(4, 5, 6, 0, 4) = 1; flow(0, 0) = 1; flow(1, 0) = -1; flow(99, 0) = -1").fails(BAD, "flow(-1, 0)");
    }

    private static void count() {
        three("Promise 23: 'Returns a number.', 'what: 0 rules, 1 flows, 2 announcements, 3 the time; how many letters 4 passed, 5 were denied,"
                + " 6 were rejected, 7 were stray', '9 how many flows were removed because they were due'")
                .does("sets(0, 2, 3) = 0; sets(1, 2, 3) = 0;" + STREAM + SINGLE + "letter(4, 5, 3, 0, 0) = 0; letter(4, 5, 7, 0, 0) = 2;"
                + "letter(4, 5, 8, 1, 2) = 2; letter(4, 5, 7, 0, 1) = 3; letter(4, 5, 7, 0, 2) = 3; letter(4, 5, 7, 0, 3) = 3; letter(4, 5, 12, 0, 0) = 1;"
                + "announces(0, 0, 1) = 1; announces(1, 0, 1) = 2; ticks(8) = 2")
                .asks("count(0) = 3; count(1) = 2; count(2) = 2; count(3) = 8; count(4) = 6; count(5) = 1; count(6) = 2; count(7) = 3; count(8) = 0; count(9) = 1");
        Run full = allowing("Promise 23: '8 found no room'");
        for (int goal = 1; goal <= 8; goal++) {
            full.does("letter(0, " + goal + ", 0, 1, 2) = 1; letter(" + goal + ", 0, 0, 1, 2) = 1");
        }
        full.does("count(8) = 0; letter(0, 9, 0, 0, 0) = 4; letter(0, 9, 0, 1, 2) = 4; letter(9, 9, 9, 0, 0) = 4; count(8) = 3; count(4) = 16");
    }

    // ---- texts

    private static void typeAndClear() {
        new Run("Promise 24: 'Appends a byte to the text.', 'Returns the length of the text'").does("type(97) = 1; type(108) = 2; type(108) = 3;"
                + "type(111) = 4; type(119) = 5; type(59) = 6; told(3) = 6; reads() = 1; of(0, 9) = 1; type(100) = 7; reads() = -16");
        new Run("Promise 25: 'Makes the text empty.', 'Returns the length that it had.'").types("reject").does("clear() = 6; told(3) = 0; reads() = 0;"
                + "type(59) = 1; reads() = -10; clear() = 1");
    }

    private static void reads() {
        three("Promise 26: 'Replaces the rules by those of the text, with 0 hits. The text stays.', 'Returns the number of rules'")
                .does("letter(1, 2, 7, 0, 0) = 2; letter(1, 2, 3, 0, 0) = 0").reads("reject to 3; allow src 4 9;", 2)
                .hasRule(0, 6, 3, 0, 31, 0, 31, 0, 15, 2, 2, 0).hasRule(1, 6, 6, 4, 9, 0, 31, 0, 15, 2, 1, 0).does("count(0) = 2; told(3) = 27");
        three("Promise 26: '-10 - (the fault) if the text has a fault (this is not counted as an error)'").types("reject to 3; allow src 4 32;")
                .asks("reads() = -35").does("count(0) = 3; told(0) = 0; told(1) = 0; told(2) = 0");
    }

    // ---- states

    private static void back() {
        three("Promise 27: 'Makes everything as it was in the latest remembered state, which is not remembered any more then.'")
                .does("letter(1, 2, 12, 0, 0) = 1; zone(2, 4, 9) = 6; ticks(2) = 1; drops(2) = 2; told(4) = 5; back() = 4; count(0) = 3; of(2, 10) = 1;"
                + "count(3) = 2; back() = 3; count(3) = 0; zoneOf(4) = 2; back() = 2; zoneOf(4) = 0; flow(0, 0) = 1; back() = 1; flow(0, 0) = -1;"
                + "of(2, 10) = 0; back() = 0; count(0) = 2").fails(NO, "back()");
        allowing("Promise 27: 'The text and the counts of told, except the number of remembered states, stay.'").types("deny;")
                .does("rule(9, 0) = -2; drops(0) = 0; told(4) = 2; back() = 1; told(0) = 1; told(3) = 5; told(4) = 1; reads() = 1; of(0, 9) = 0");
    }

    private static void told() {
        allowing("Promise 28: 'Returns a count.', 'how often a method returned 0 BAD, 1 NO, 2 FULL; 3 the length of the text; 4 remembered states'")
                .types("deny;".repeat(12)).does("letter(1, 2, 3, 0, 0) = 1; announces(0, 0, 0) = -3; reads() = 12; rule(0, 0) = -4; rule(12, 1) = -4;"
                + "drops(12) = -2; zone(7, 0, 0) = -2; told(-1) = -2").asks("told(0) = 3; told(1) = 1; told(2) = 2; told(3) = 60; told(4) = 3");
    }

    /** The numbers of the sequence are written out here, and not asked for. */
    private static void digest() {
        int[] zones = new int[32];
        Arrays.fill(zones, 4, 6, 2);
        int[][] sequence = {{1, 0, 0, 1, 5}, {2, 1, 0, 4, 4, 1, 0, 0, 0, 0}, zones, {6, 6, 0, 31, 0, 31, 0, 9, 2, 1, 1}, {6, 6, 0, 31, 0, 31, 0, 15, 2, 0, 1},
            {1, 2, 3, 0, 4, 10, 1}, {5, 5, 40, 10, 3, 9, 20}};
        long h = 2573;
        for (int[] part : sequence) {
            for (int v : part) {
                h = 31 * h + v;
            }
        }
        new Run("Promise 29: 'Returns a hash of the observable state.', 'told(0) to told(4); count(0) to count(9); the zones of all addresses;"
                + " for each rule r of(r, 0) to of(r, 10); for each flow i flow(i, 0) to flow(i, 6); the spans of the stages 1 to 7.'")
                .does("zone(2, 4, 5) = 2; rule(0, 1) = 1; sets(0, 7, 9) = 15; rule(1, 0) = 2;" + STREAM + "letter(2, 1, 3, 0, 3) = 1;"
                + "letter(1, 2, 10, 0, 0) = 0; ticks(4) = 1; span(6, 9) = 8; type(64) = 1; told(7) = -2; digest() = " + h);
        long next = 31L * 2573;
        for (int k = 1; k < 47; k++) {
            next *= 31;
        }
        for (int span : new int[] {5, 5, 40, 10, 3, 8, 20}) {
            next = 31 * next + span;
        }
        new Run("Promise 29: 'For each value v of the following sequence h becomes 31 * h + v', 'Returns the hash.'").does("digest() = " + next);
    }
}
