import java.util.Random;

/**
 * The document's heads 'What it is', 'Description' and 'Not promised', sentence by sentence from
 * the first line: each run bears the sentence that it holds, and makes ordinary calls. The
 * boundary cases of the same heads stand in the tests whose names end in EdgesTest.
 */
public final class DescriptionTest {
    private static final int BAD = -2, NO = -3, FULL = -4;

    /** A flow from 1 to 2 at port 3, of sort 0 brought into stage 3 and of sort 1 into stage 7. */
    private static final String STREAM = "letter(1, 2, 3, 0, 0) = 1; letter(2, 1, 3, 0, 1) = 1; letter(1, 2, 3, 0, 2) = 1;";
    private static final String SINGLE = "letter(1, 2, 3, 1, 2) = 1; letter(2, 1, 3, 1, 2) = 1;";

    public static void main(String[] args) {
        whatItIs();
        numbersAndSorts();
        cases();
        sequenceOfRules();
        numbersOfRules();
        allConditions();
        hitsOfEachRule();
        flows();
        spans();
        signs();
        belonging();
        stages();
        withoutFlow();
        announced();
        askedRules();
        newFlow();
        announcements();
        bytes();
        partsOfRules();
        rememberingCalls();
        rememberedCounts();
        errorCodes();
        notPromised();
        Run.end();
    }

    private static Run allowing(String name) {
        return new Run(name).does("rule(0, 1) = 1");
    }

    // ---- What it is

    private static void whatItIs() {
        new Run("What it is: 'an ordered list of rules decides about packets (called letters) that open a connection'")
                .does("rule(0, 1) = 1; rule(1, 2) = 2; letter(1, 2, 3, 0, 0) = 1; of(0, 10) = 1; of(1, 10) = 0; moves(0, 1) = 0;"
                + "letter(2, 1, 3, 0, 1) = 1; of(0, 10) = 0; of(1, 10) = 1; letter(4, 5, 6, 0, 0) = 2; of(0, 10) = 1; of(1, 10) = 1");
        allowing("What it is: 'connections (flows) are tracked by their handshake with timeouts'")
                .does("letter(1, 2, 3, 0, 0) = 1; flow(0, 4) = 1; letter(2, 1, 3, 0, 1) = 1; flow(0, 4) = 2; letter(1, 2, 3, 0, 2) = 1;"
                + "flow(0, 4) = 3; letter(1, 2, 3, 0, 3) = 1; flow(0, 4) = 4; letter(2, 1, 3, 0, 3) = 1; flow(0, 4) = 5; ticks(2) = 1;"
                + "ticks(1) = 0; letter(2, 1, 3, 0, 2) = 3");
        new Run("What it is: 'The class analyses the rules (rules that never decide, that are redundant or contradict each other,"
                + " differences between two lists)'")
                .does("rule(0, 1) = 1; rule(1, 2) = 2; sets(1, 7, 3) = 15; idle(0, 0) = 0; idle(1, 0) = 1; idle(0, 1) = 0; idle(1, 1) = 1;"
                + "contradicts(0, 1) = 8192; keeps() = 2; moves(1, 0) = 1; change(0) = 8192; change(5) = 1; change(6) = 2");
        new Run("What it is: 'reads rules from text, and can be taken back by several states.'").types("allow;")
                .does("reads() = 1; of(0, 9) = 1; letter(1, 2, 3, 0, 0) = 1; zone(1, 0, 0) = 1; back() = 2; zoneOf(0) = 0; count(1) = 1;"
                + "back() = 1; count(1) = 0; count(0) = 1; back() = 0; count(0) = 0");
    }

    // ---- Rules

    private static void numbersAndSorts() {
        Run ports = allowing("Rules: 'and ports 0 to 15'").does("sets(0, 7, 0) = 15");
        for (int port = 0; port <= 15; port++) {
            int before = Math.max(0, port - 1);
            ports.does("sets(0, 6, " + port + ") = " + before + "; sets(0, 7, " + port + ") = " + before + "; decides(1, 2, " + port + ", 0) = 0");
        }
        ports.does("decides(1, 2, 14, 0) = -1").beyond("decides(1, 2, #, 0)", 0, 15);
        new Run("Rules: 'Traffic has a sort: 0 stream, 1 single.'").reads("allow stream;", 1)
                .does("of(0, 8) = 0; decides(1, 2, 3, 0) = 0; decides(1, 2, 3, 1) = -1; letter(1, 2, 3, 0, 0) = 1; flow(0, 3) = 0")
                .reads("allow single;", 1)
                .does("of(0, 8) = 1; decides(1, 2, 3, 0) = -1; decides(1, 2, 3, 1) = 0; letter(1, 2, 3, 1, 2) = 1; flow(1, 3) = 1");
    }

    private static void cases() {
        String sentence = "Rules: 'A case consists of a source and a goal (addresses, possibly the same), a port and a sort'";
        new Run(sentence + ", 32 x 32 x 16 x 2 of them").does("all(0) = 32768; rule(0, 1) = 1; cases(0, 1) = 32768; sets(0, 3, 1) = 31;"
                + "cases(0, 1) = 2048; sets(0, 5, 2) = 31; cases(0, 1) = 192; sets(0, 7, 3) = 15; cases(0, 1) = 48; sets(0, 8, 1) = 2; cases(0, 1) = 24");
        allowing(sentence + ", another one if one of them is another").does("letter(1, 2, 3, 0, 0) = 1; letter(3, 2, 3, 0, 0) = 1;"
                + "letter(1, 1, 3, 0, 0) = 1; letter(1, 2, 4, 0, 0) = 1; letter(1, 2, 3, 1, 2) = 1; count(1) = 5; letter(1, 2, 3, 0, 0) = 3; count(1) = 5");
    }

    private static void sequenceOfRules() {
        new Run("Rules: 'at most 12 rules, numbered from 0 in their sequence'").does("rule(0, 0) = 1; rule(1, 1) = 2; rule(2, 2) = 3;"
                + "of(0, 9) = 0; of(1, 9) = 1; of(2, 9) = 2; rule(1, 2) = 4; of(0, 9) = 0; of(1, 9) = 2; of(2, 9) = 1; of(3, 9) = 2; drops(0) = 3;"
                + "of(0, 9) = 2; of(1, 9) = 1; of(2, 9) = 2").fails(BAD, "of(3, 9); of(-1, 9)");
    }

    private static void numbersOfRules() {
        allowing("Rules: 'A rule has ten numbers'").does("sets(0, 0, 1) = 6; sets(0, 1, 2) = 6; sets(0, 2, 3) = 0; sets(0, 3, 4) = 31;"
                + "sets(0, 4, 5) = 0; sets(0, 5, 6) = 31; sets(0, 6, 7) = 0; sets(0, 7, 8) = 15; sets(0, 8, 0) = 2; sets(0, 9, 2) = 1")
                .hasRule(0, 1, 2, 3, 4, 5, 6, 7, 8, 0, 2, 0).beyond("sets(0, #, 0)", 0, 9);
        new Run("Rules: '9 the action (0 deny, 1 allow, 2 reject)'").does("rule(0, 0) = 1; all(0) = 32768; letter(1, 2, 3, 0, 0) = 0;"
                + "sets(0, 9, 2) = 0; all(2) = 32768; letter(1, 2, 3, 0, 0) = 2; sets(0, 9, 1) = 2; all(1) = 32768; letter(1, 2, 3, 0, 0) = 1");
    }

    /** Every condition of a rule is broken alone, on both sides where it has two. */
    private static void allConditions() {
        Run run = new Run("Rules: 'A rule fits a case if all these conditions hold for it'").does("zone(1, 4, 9) = 6; zone(2, 10, 19) = 10;"
                + "rule(0, 1) = 1; sets(0, 0, 1) = 6; sets(0, 1, 2) = 6; sets(0, 2, 5) = 0; sets(0, 3, 8) = 31; sets(0, 4, 12) = 0;"
                + "sets(0, 5, 18) = 31; sets(0, 6, 3) = 0; sets(0, 7, 6) = 15; sets(0, 8, 1) = 2");
        run.does("decides(5, 12, 3, 1) = 0; decides(8, 18, 6, 1) = 0; decides(6, 15, 4, 1) = 0; cases(0, 1) = 112");
        run.does("decides(4, 12, 3, 1) = -1; decides(9, 12, 3, 1) = -1; decides(5, 11, 3, 1) = -1; decides(5, 19, 3, 1) = -1;"
                + "decides(5, 12, 2, 1) = -1; decides(5, 12, 7, 1) = -1; decides(5, 12, 3, 0) = -1; decides(12, 5, 3, 1) = -1");
        run.does("zone(0, 5, 5) = 1; decides(5, 12, 3, 1) = -1; decides(6, 12, 3, 1) = 0; zone(1, 12, 12) = 1; decides(6, 12, 3, 1) = -1;"
                + "decides(6, 13, 3, 1) = 0; cases(0, 1) = 72");
    }

    private static void hitsOfEachRule() {
        Run run = new Run("Rules: 'Each rule has a count of hits.'");
        for (int r = 0; r < 12; r++) {
            run.does("rule(" + r + ", 2) = " + (r + 1) + "; sets(" + r + ", 6, " + r + ") = 0; sets(" + r + ", 7, " + r + ") = 15");
        }
        for (int r = 0; r < 12; r++) {
            run.repeats(r, "letter(1, 2, " + r + ", 1, 2) = 2");
        }
        for (int r = 0; r < 12; r++) {
            run.does("of(" + r + ", 10) = " + r);
        }
        run.does("count(6) = 66; drops(4) = 11; of(4, 10) = 5; of(3, 10) = 3");
    }

    // ---- Flows

    private static void flows() {
        allowing("Flows: 'There are at most 8 flows, in the order in which they were opened.'").does("letter(1, 9, 0, 0, 0) = 1;"
                + "letter(1, 4, 0, 0, 0) = 1; letter(1, 7, 0, 0, 0) = 1; flow(0, 1) = 9; flow(1, 1) = 4; flow(2, 1) = 7; letter(7, 1, 0, 0, 1) = 1;"
                + "flow(0, 1) = 9; flow(2, 1) = 7; letter(1, 4, 0, 0, 4) = 1; flow(1, 1) = 7; letter(1, 4, 0, 0, 0) = 1; flow(1, 1) = 7; flow(2, 1) = 4");
        allowing("Flows: 'A flow has a case (its source is the opener, its goal the other side), a stage from 1 to 7, and a due time.'")
                .does("letter(6, 9, 4, 1, 2) = 1; flow(0, 0) = 6; flow(0, 1) = 9; flow(0, 2) = 4; flow(0, 3) = 1; flow(0, 4) = 6; flow(0, 5) = 8;"
                + "letter(9, 6, 4, 1, 2) = 1; flow(0, 0) = 6; flow(0, 1) = 9; flow(0, 2) = 4; flow(0, 3) = 1; flow(0, 4) = 7; flow(0, 5) = 20");
    }

    private static void spans() {
        new Run("Flows: 'Each stage has a span (1 to 100; at first 5, 5, 40, 10, 3, 8, 20 for the stages 1 to 7).'")
                .does("span(1, 11) = 5; span(2, 12) = 5; span(3, 13) = 40; span(4, 14) = 10; span(5, 15) = 3; span(6, 16) = 8; span(7, 17) = 20;"
                + "span(1, 1) = 11; span(2, 100) = 12; span(3, 1) = 13; span(4, 100) = 14; span(5, 1) = 15; span(6, 100) = 16; span(7, 1) = 17")
                .beyond("span(4, #)", 1, 100).beyond("span(#, 50)", 1, 7);
    }

    private static void signs() {
        allowing("Flows: 'A letter has a case and a sign: 0 open, 1 answer, 2 go, 3 end, 4 break.'").does("letter(1, 2, 3, 0, 0) = 1;"
                + "flow(0, 4) = 1; letter(2, 1, 3, 0, 1) = 1; flow(0, 4) = 2; letter(1, 2, 3, 0, 2) = 1; flow(0, 4) = 3; letter(2, 1, 3, 0, 3) = 1;"
                + "flow(0, 4) = 4; flow(0, 6) = 1; letter(1, 2, 3, 0, 4) = 1; count(1) = 0").beyond("letter(1, 2, 3, 0, #)", 0, 4);
    }

    private static void belonging() {
        allowing("Flows: 'It belongs to the flow with the same case (then it comes from the opener)'").does("letter(4, 5, 3, 0, 0) = 1;"
                + STREAM + "letter(1, 2, 3, 0, 3) = 1; flow(0, 4) = 1; flow(1, 4) = 4; flow(1, 6) = 0");
        allowing("Flows: 'or else to the flow with this case, but source and goal exchanged (then it comes from the other side)'")
                .does("letter(4, 5, 3, 0, 0) = 1;" + STREAM + "letter(2, 1, 3, 0, 3) = 1; flow(0, 4) = 1; flow(1, 4) = 4; flow(1, 6) = 1;"
                + "letter(5, 4, 3, 0, 1) = 1; flow(0, 4) = 2; flow(1, 4) = 4");
    }

    private static void stages() {
        allowing("Flows: 'in stage 1 an answer from the other side passes; the stage becomes 2'").does("letter(1, 2, 3, 0, 0) = 1;"
                + "letter(2, 1, 3, 0, 1) = 1; flow(0, 4) = 2; flow(0, 6) = -1");
        allowing("Flows: 'in stage 2 a go from the opener passes; the stage becomes 3'").does(STREAM + "flow(0, 4) = 3; flow(0, 6) = -1");
        allowing("Flows: 'in stage 3 a go passes; an end passes, the stage becomes 4, and its sender has ended'").does(STREAM
                + "letter(2, 1, 3, 0, 2) = 1; flow(0, 4) = 3; letter(2, 1, 3, 0, 3) = 1; flow(0, 4) = 4; flow(0, 6) = 1; letter(2, 1, 3, 0, 2) = 3");
        allowing("Flows: 'in stage 4, from the side that has not ended, a go passes; an end passes, and the stage becomes 5'").does(STREAM
                + "letter(1, 2, 3, 0, 3) = 1; letter(2, 1, 3, 0, 2) = 1; flow(0, 4) = 4; letter(2, 1, 3, 0, 3) = 1; flow(0, 4) = 5;"
                + "letter(1, 2, 3, 0, 2) = 3; letter(2, 1, 3, 0, 2) = 3");
    }

    private static void withoutFlow() {
        allowing("Flows: 'If there is no such flow, an open of sort 0 and a go of sort 1 are opening letters; everything else is stray.'")
                .does("letter(2, 1, 3, 0, 1) = 3; letter(1, 2, 3, 0, 2) = 3; letter(1, 2, 3, 1, 0) = 3; of(0, 10) = 0; count(7) = 3;"
                + STREAM + SINGLE + "letter(1, 2, 3, 0, 4) = 1; letter(1, 2, 3, 0, 2) = 3; letter(1, 2, 3, 0, 0) = 1; count(1) = 2; of(0, 10) = 3");
    }

    private static void announced() {
        for (int action = 0; action <= 2; action++) {
            allowing("Flows: 'If there is an announcement with the case of an opening letter, the letter is allowed', by no rule (" + action + ")")
                    .does(STREAM + "announces(0, 1, 9) = 1; sets(0, 9, " + action + ") = 1; letter(1, 2, 9, 0, 0) = 1; flow(1, 2) = 9;"
                    + "flow(1, 4) = 1; of(0, 10) = 1; count(2) = 0; count(4) = 4; count(5) = 0; count(6) = 0");
        }
    }

    private static void askedRules() {
        new Run("Flows: 'Otherwise the rules are asked', 'and the letter is allowed, denied or rejected by the action of the case.'")
                .does("rule(0, 0) = 1; sets(0, 7, 4) = 15; rule(1, 2) = 2; sets(1, 7, 9) = 15; rule(2, 1) = 3; letter(1, 2, 4, 0, 0) = 0;"
                + "letter(1, 2, 5, 0, 0) = 2; letter(1, 2, 10, 0, 0) = 1; of(0, 10) = 1; of(1, 10) = 1; of(2, 10) = 1; count(1) = 1; count(5) = 1;"
                + "count(6) = 1; count(4) = 1; sets(2, 7, 14) = 15; letter(1, 2, 15, 0, 0) = 0; count(5) = 2; of(2, 10) = 1");
    }

    private static void newFlow() {
        allowing("Flows: 'Otherwise the letter passes: there is a new flow with this case', 'due at the time plus the span of that stage.'")
                .does("ticks(3) = 0; span(1, 9) = 5; span(6, 30) = 8; letter(7, 8, 4, 0, 0) = 1; flow(0, 0) = 7; flow(0, 1) = 8; flow(0, 2) = 4;"
                + "flow(0, 3) = 0; flow(0, 4) = 1; flow(0, 5) = 12; flow(0, 6) = -1; letter(7, 8, 4, 1, 2) = 1; flow(1, 3) = 1; flow(1, 4) = 6;"
                + "flow(1, 5) = 33; count(1) = 2; count(4) = 2");
        StringBuilder eight = new StringBuilder();
        for (int goal = 1; goal <= 8; goal++) {
            eight.append("letter(0, " + goal + ", 0, 0, 0) = 1;");
        }
        allowing("Flows: 'If it is allowed and there are already 8 flows, the flow with the least due time of those in stage 1 or 6"
                + " (of several the oldest one) is removed'").does(eight + "ticks(1) = 8; letter(0, 9, 0, 0, 0) = 1; count(1) = 8; flow(0, 1) = 2;"
                + "flow(7, 1) = 9; flow(7, 5) = 6; letter(0, 10, 0, 0, 0) = 1; flow(0, 1) = 3; flow(6, 1) = 9; flow(7, 1) = 10; count(9) = 0");
    }

    private static void announcements() {
        Run run = allowing("Flows: 'An announcement (at most 6) consists of a case and a time until which it lasts.'").does(STREAM
                + "announces(0, 0, 5) = 1; ticks(4) = 1; announces(0, 1, 5) = 2; drops(0) = 0; letter(2, 1, 6, 0, 0) = 0; letter(2, 1, 5, 0, 0) = 1;"
                + "letter(2, 1, 5, 0, 4) = 1; count(2) = 1; ticks(9) = 1; count(2) = 1; ticks(1) = 1; count(2) = 0; letter(1, 2, 5, 0, 0) = 0");
        for (int n = 1; n <= 6; n++) {
            run.does("announces(0, 0, " + n + ") = " + n);
        }
        run.fails(FULL, "announces(0, 0, 7)");
    }

    // ---- Texts

    private static void bytes() {
        Run first = new Run("Texts: 'The text is a buffer of at most 120 bytes (0 to 127).', the bytes 0 to 119");
        for (int c = 0; c < 120; c++) {
            first.does("type(" + c + ") = " + (c + 1));
        }
        first.fails(FULL, "type(120)");
        Run rest = new Run("Texts: 'The text is a buffer of at most 120 bytes (0 to 127).', the bytes 120 to 127");
        for (int c = 120; c <= 127; c++) {
            rest.does("type(" + c + ") = " + (c - 119));
        }
        rest.beyond("type(#)", 0, 127);
    }

    private static void partsOfRules() {
        new Run("Texts: 'src and two addresses, dst and two addresses, port and two ports, and one of stream and single; and \";\".'")
                .reads("allow src 1 2 dst 3 4 port 5 6 stream;", 1).hasRule(0, 6, 6, 1, 2, 3, 4, 5, 6, 0, 1, 0)
                .reads("allow single port 5 6 src 1 2 dst 3 4;", 1).hasRule(0, 6, 6, 1, 2, 3, 4, 5, 6, 1, 1, 0)
                .reads("allow src 1 2 dst 3 4 port 5 6 stream", -47).reads("allow src 1 2 dst 3 4 port 5 6 single.", -47);
    }

    // ---- States

    private static void rememberingCalls() {
        String[] calls = {"zone(1, 4, 6) = 3", "rule(0, 2) = 2", "sets(0, 7, 9) = 15", "drops(0) = 0", "moves(0, 0) = 0", "keeps() = 1", "takes() = 0",
            "letter(4, 5, 6, 0, 0) = 1", "announces(0, 0, 9) = 1", "ticks(4) = 1", "span(3, 9) = 40", "cuts() = 0", "reads() = 2"};
        for (String call : calls) {
            allowing("States: 'Each successful call of zone, rule, sets, drops, moves, keeps, takes, letter, announces, ticks, span, cuts and reads"
                    + " (without a fault) remembers the state before it', " + call).types("deny;allow;").does(SINGLE + "told(4) = 3").undoes(call)
                    .does(call + "; told(4) = 4; back() = 3; told(4) = 3; flow(0, 4) = 7; back() = 2; flow(0, 4) = 6");
        }
    }

    /** Letters of all five kinds and a flow that is due, each taken back alone. */
    private static void rememberedCounts() {
        Run run = new Run("States: 'and the counts 4 to 9 of count'").does("rule(0, 1) = 1; sets(0, 7, 4) = 15; rule(1, 2) = 2; sets(1, 7, 9) = 15;"
                + "letter(1, 2, 15, 0, 0) = 0; count(5) = 1; letter(1, 2, 9, 0, 0) = 2; count(6) = 1; letter(1, 2, 3, 0, 3) = 3; count(7) = 1;"
                + "letter(1, 2, 3, 0, 0) = 1; count(4) = 1; ticks(5) = 0; count(9) = 1");
        run.does("back() = 4; count(9) = 0; count(4) = 1; back() = 3; count(4) = 0; count(7) = 1; back() = 2; count(7) = 0; count(6) = 1;"
                + "back() = 1; count(6) = 0; count(5) = 1; back() = 0; count(5) = 0");
        Run full = allowing("States: 'and the counts 4 to 9 of count', no room");
        for (int goal = 1; goal <= 8; goal++) {
            full.does("letter(0, " + goal + ", 0, 1, 2) = 1; letter(" + goal + ", 0, 0, 1, 2) = 1");
        }
        full.does("letter(0, 9, 0, 0, 0) = 4; letter(0, 9, 0, 0, 0) = 4; count(8) = 2; back() = 4; count(8) = 1; back() = 3; count(8) = 0");
    }

    // ---- Error codes

    private static void errorCodes() {
        allowing("Error codes: 'BAD (-2): an argument is out of its range'").does(STREAM).fails(BAD, "zone(6, 0, 1); zoneOf(32); rule(0, 3);"
                + "sets(0, 10, 0); sets(0, 6, 16); of(0, 11); decides(0, 0, 0, 2); cases(0, 2); idle(0, -1); change(7); all(3); letter(0, 0, 0, 0, 5);"
                + "announces(0, 2, 0); ticks(0); span(1, 101); flow(0, 7); count(10); type(128); told(5)").does("told(0) = 19");
        allowing("Error codes: 'or something with that number does not exist.'").does(STREAM).fails(BAD, "rule(2, 0); sets(1, 0, 0); drops(1);"
                + "moves(1, 0); moves(0, 1); of(1, 0); cases(1, 0); idle(1, 0); contradicts(0, 1); announces(1, 0, 0)").does("told(0) = 10");
        allowing("Error codes: 'NO (-3), FULL (-4): as the methods say.'").does("letter(1, 2, 3, 0, 0) = 1").fails(NO, "announces(0, 0, 0)")
                .does("back() = 1; back() = 0").fails(NO, "back()").does("told(0) = 0; told(1) = 2; told(2) = 0");
        new Run("Error codes: 'NO (-3), FULL (-4): as the methods say.'").reads("deny;".repeat(12) + " ".repeat(60), 12)
                .fails(FULL, "rule(0, 0); type(32)").does("told(0) = 0; told(1) = 0; told(2) = 2");
        new Run("Error codes: 'NONE (-1) is not an error; it means \"there is none\"'").does("rule(0, 1) = 1; sets(0, 6, 4) = 0; keeps() = 1")
                .asks("decides(1, 2, 3, 0) = -1; change(1) = -1; flow(0, 0) = -1").does("letter(1, 2, 4, 0, 0) = 1").asks("flow(0, 6) = -1; flow(1, 0) = -1")
                .does("told(0) = 0; told(1) = 0; told(2) = 0");
    }

    // ---- Not promised

    /** What later calls answer is free, but LANGUAGE.md (7) lets none of them throw. */
    private static void notPromised() {
        Random random = new Random(512);
        ZoneGuard guard = new ZoneGuard();
        int[] edges = {Integer.MIN_VALUE, -1, 0, 1, 2, 3, 5, 7, 12, 31, 32, 100, 127, Integer.MAX_VALUE};
        int thrown = 0;
        for (int k = 0; k < 20000; k++) {
            Call call = Call.anyOf(random.nextInt(Call.methods()), () -> edges[random.nextInt(edges.length)]);
            try {
                call.on(guard);
            } catch (ReflectiveOperationException e) {
                thrown++;
                System.out.println(call + " threw " + e.getCause());
            }
        }
        Run.same("Not promised: 'nothing about an object after its 512th call', calls that threw", thrown, 0);
    }
}
