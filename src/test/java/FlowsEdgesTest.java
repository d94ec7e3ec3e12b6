/**
 * The boundary cases that the document names about letters and flows: its head 'Flows' and
 * the promises 17 to 23. Each run bears the sentence that it holds.
 */
public final class FlowsEdgesTest {
    private static final int BAD = -2, NO = -3, FULL = -4;
    private static final int[] FIRST_SPANS = {5, 5, 40, 10, 3, 8, 20};

    /** Calls that bring a flow from 3 to 5 at port 2 into each stage, where rule 0 allows it. */
    private static final String[] TO_STAGE = new String[8];

    static {
        TO_STAGE[1] = "letter(3, 5, 2, 0, 0) = 1;";
        TO_STAGE[2] = TO_STAGE[1] + "letter(5, 3, 2, 0, 1) = 1;";
        TO_STAGE[3] = TO_STAGE[2] + "letter(3, 5, 2, 0, 2) = 1;";
        TO_STAGE[4] = TO_STAGE[3] + "letter(3, 5, 2, 0, 3) = 1;";
        TO_STAGE[5] = TO_STAGE[4] + "letter(5, 3, 2, 0, 3) = 1;";
        TO_STAGE[6] = "letter(3, 5, 2, 1, 2) = 1;";
        TO_STAGE[7] = TO_STAGE[6] + "letter(5, 3, 2, 1, 2) = 1;";
    }

    public static void main(String[] args) {
        letterArguments();
        letterAnswers();
        opener();
        breaks();
        onlyTheRightSide();
        strays();
        dueTimes();
        openingLetters();
        eightFlows();
        givingWay();
        noRoom();
        oldestAnnouncement();
        announcesArguments();
        announcesStages();
        sixAnnouncements();
        announcesOrder();
        announcesUntil();
        announcesWays();
        ticksArguments();
        ticksFlows();
        timeAtFirst();
        ticksNothing();
        spanArguments();
        spanLater();
        cutsFlows();
        cutsActions();
        flowArguments();
        flowNone();
        flowEnded();
        countArguments();
        countEach();
        manyTicks();
        Run.end();
    }

    private static Run allowing(String name) {
        return new Run(name).does("rule(0, 1) = 1");
    }

    private static int sortOf(int stage) {
        return stage < 6 ? 0 : 1;
    }

    /** Flows of sort 1 from address 0 to 1, 2 ..; in stage 7 if both sides have sent. */
    private static String singles(int n, boolean answered) {
        StringBuilder calls = new StringBuilder();
        for (int goal = 1; goal <= n; goal++) {
            calls.append("letter(0, " + goal + ", 0, 1, 2) = 1;");
            if (answered) {
                calls.append("letter(" + goal + ", 0, 0, 1, 2) = 1;");
            }
        }
        return calls.toString();
    }

    // ---- promise 17

    private static void letterArguments() {
        String[] kinds = {"source: 0 to 31", "goal: 0 to 31", "port: 0 to 15", "sort: 0 or 1", "sign: 0 to 4"};
        String[] calls = {"letter(#, 1, 1, 0, 0)", "letter(1, #, 1, 0, 0)", "letter(1, 1, #, 0, 0)", "letter(1, 1, 1, #, 0)", "letter(1, 1, 1, 0, #)"};
        int[] greatest = {31, 31, 15, 1, 4};
        // a letter of sort 1 with sign 0 and one with sign 4 are taken, and stray
        int[] answers = {1, 1, 1, 3, 3};
        for (int k = 0; k < 5; k++) {
            allowing("Promise 17: '" + kinds[k] + "'").each(calls[k].replace("#", "0") + " = 1;"
                    + calls[k].replace("#", "" + greatest[k]) + " = " + answers[k])
                    .beyond(calls[k], 0, greatest[k]).does("count(4) = 0; count(7) = 0; told(0) = 4; told(4) = 1");
        }
        allowing("Promise 17: the first and the last case").does("letter(0, 0, 0, 0, 0) = 1; letter(31, 31, 15, 1, 2) = 1; flow(0, 0) = 0;"
                + "flow(0, 1) = 0; flow(0, 2) = 0; flow(0, 3) = 0;"
                + "flow(1, 0) = 31; flow(1, 1) = 31; flow(1, 2) = 15; flow(1, 3) = 1");
    }

    private static void letterAnswers() {
        new Run("Promise 17: '1 if it passes, 0 if it is denied, 2 if it is rejected, 3 if it is stray, 4 if there is no room'")
                .does("rule(0, 1) = 1; letter(0, 20, 0, 0, 0) = 1;"
                + "letter(0, 20, 0, 0, 4) = 1; sets(0, 9, 0) = 1; letter(0, 20, 0, 0, 0) = 0; sets(0, 9, 2) = 0; letter(0, 20, 0, 0, 0) = 2;"
                + "letter(0, 20, 0, 0, 1) = 3; sets(0, 9, 1) = 2;"
                + singles(8, true) + "letter(0, 20, 0, 0, 0) = 4; count(4) = 18; count(5) = 1; count(6) = 1; count(7) = 1; count(8) = 1;"
                + "told(0) = 0; told(1) = 0; told(2) = 0");
    }

    private static void opener() {
        allowing("Flows: 'the same case (then it comes from the opener), or else .. exchanged (then it comes from the other side)'").does(TO_STAGE[1]
                + "letter(3, 5, 2, 0, 1) = 3; letter(5, 3, 2, 0, 1) = 1; letter(5, 3, 2, 0, 2) = 3; letter(3, 5, 2, 0, 2) = 1; count(1) = 1");
        // one number beside it, and it is another case
        allowing("Flows: another case is another flow").does(TO_STAGE[1] + "letter(5, 3, 1, 0, 1) = 3; letter(5, 3, 3, 0, 1) = 3;"
                + "letter(5, 3, 2, 1, 1) = 3; letter(4, 3, 2, 0, 1) = 3;"
                + "letter(6, 3, 2, 0, 1) = 3; letter(5, 2, 2, 0, 1) = 3; letter(5, 4, 2, 0, 1) = 3; flow(0, 4) = 1; count(7) = 7");
        allowing("Flows: a flow of an address with itself, whose letters come from the opener")
                .does("letter(3, 3, 2, 0, 0) = 1; letter(3, 3, 2, 0, 1) = 3; letter(3, 3, 2, 0, 2) = 3;"
                + "letter(3, 3, 2, 0, 0) = 3; flow(0, 4) = 1; letter(4, 4, 2, 1, 2) = 1; letter(4, 4, 2, 1, 2) = 1; flow(1, 4) = 6;"
                + "letter(3, 3, 2, 0, 4) = 1; count(1) = 1; letter(4, 4, 2, 1, 4) = 1; count(1) = 0");
    }

    private static void breaks() {
        for (int stage = 1; stage <= 7; stage++) {
            allowing("Flows: 'a break passes, and the flow is removed', in stage " + stage).does(TO_STAGE[stage])
                    .each("letter(3, 5, 2, " + sortOf(stage) + ", 4) = 1; letter(5, 3, 2, " + sortOf(stage) + ", 4) = 1")
                    .does("letter(5, 3, 2, " + sortOf(stage) + ", 4) = 1; count(1) = 0; flow(0, 0) = -1; count(9) = 0;"
                    + "letter(5, 3, 2, " + sortOf(stage) + ", 4) = 3");
        }
        allowing("Flows: the flow that is broken goes, and the others stay in their order").does(singles(8, false) + "letter(4, 0, 0, 1, 4) = 1;"
                + "count(1) = 7; flow(0, 1) = 1; flow(2, 1) = 3; flow(3, 1) = 5;"
                + "flow(6, 1) = 8; flow(7, 1) = -1; letter(0, 1, 0, 1, 4) = 1; flow(0, 1) = 2; letter(0, 8, 0, 1, 4) = 1; flow(5, 1) = -1;"
                + "flow(4, 1) = 7");
    }

    private static void onlyTheRightSide() {
        allowing("Flows: 'in stage 1 an answer from the other side passes'").does(TO_STAGE[1])
                .each("letter(5, 3, 2, 0, 1) = 1; letter(3, 5, 2, 0, 1) = 3");
        allowing("Flows: 'in stage 2 a go from the opener passes'").does(TO_STAGE[2]).each("letter(3, 5, 2, 0, 2) = 1; letter(5, 3, 2, 0, 2) = 3");
        allowing("Flows: 'in stage 3 a go passes; an end passes'").does(TO_STAGE[3]).each("letter(3, 5, 2, 0, 2) = 1; letter(5, 3, 2, 0, 2) = 1;"
                + "letter(3, 5, 2, 0, 3) = 1; letter(5, 3, 2, 0, 3) = 1");
        allowing("Flows: 'in stage 4, from the side that has not ended, a go passes; an end passes'").does(TO_STAGE[4])
                .each("letter(5, 3, 2, 0, 2) = 1; letter(3, 5, 2, 0, 2) = 3; letter(5, 3, 2, 0, 3) = 1; letter(3, 5, 2, 0, 3) = 3");
        allowing("Flows: 'in stage 4, from the side that has not ended', the opener").does(TO_STAGE[3] + "letter(5, 3, 2, 0, 3) = 1")
                .each("letter(3, 5, 2, 0, 2) = 1; letter(5, 3, 2, 0, 2) = 3; letter(3, 5, 2, 0, 3) = 1; letter(5, 3, 2, 0, 3) = 3");
        allowing("Flows: 'in stage 6 a go passes; if it comes from the other side, the stage becomes 7'")
                .does(TO_STAGE[6] + "letter(3, 5, 2, 1, 2) = 1; flow(0, 4) = 6; letter(5, 3, 2, 1, 2) = 1; flow(0, 4) = 7");
        allowing("Flows: 'in stage 7 a go passes'").does(TO_STAGE[7] + "letter(3, 5, 2, 1, 2) = 1; flow(0, 4) = 7; letter(5, 3, 2, 1, 2) = 1;"
                + "flow(0, 4) = 7");
    }

    private static void strays() {
        // by stage: side and sign of all letters that are neither named nor a break
        int[][] stray = {{}, {0, 1, 2, 3, 5, 7, 8}, {0, 1, 3, 5, 6, 7, 8}, {0, 1, 5, 6}, {0, 1, 2, 3, 5, 6}, {0, 1, 2, 3, 5, 6, 7, 8}, {0, 1, 3, 5, 6, 8}, {0, 1, 3, 5, 6, 8}};
        for (int stage = 1; stage <= 7; stage++) {
            for (int move : stray[stage]) {
                String ends = move < 5 ? "3, 5" : "5, 3";
                int ended = stage == 4 || stage == 5 ? 0 : -1;
                allowing("Flows: 'everything else is stray and changes nothing', in stage " + stage)
                        .does(TO_STAGE[stage] + "ticks(1) = 1; letter(" + ends + ", 2, " + sortOf(stage) + ", " + move % 5
                        + ") = 3; count(7) = 1; flow(0, 0) = 3; flow(0, 1) = 5; flow(0, 2) = 2; flow(0, 4) = " + stage + ";"
                        + "flow(0, 5) = " + FIRST_SPANS[stage - 1] + "; flow(0, 6) = " + ended
                        + "; count(1) = 1; of(0, 10) = 1; count(4) = " + (TO_STAGE[stage].split(";").length));
            }
        }
    }

    private static void dueTimes() {
        // each stage gets a span of its own, and the letter comes at time 1
        String spans = "span(1, 11) = 5; span(2, 12) = 5; span(3, 13) = 40; span(4, 14) = 10; span(5, 15) = 3; span(6, 16) = 8; span(7, 17) = 20;"
                + "ticks(1) = 0;";
        for (int stage = 1; stage <= 7; stage++) {
            allowing("Flows: 'the due time becomes the time plus the span of its stage (the new one)', " + stage)
                    .does(spans + TO_STAGE[stage] + "flow(0, 5) = " + (11 + stage));
        }
        allowing("Flows: 'Whenever a letter passes and its flow remains', in the same stage")
                .does(TO_STAGE[3] + "ticks(39) = 1; letter(5, 3, 2, 0, 2) = 1; flow(0, 5) = 79; ticks(39) = 1; letter(3, 5, 2, 0, 3) = 1;"
                + "flow(0, 5) = 88; ticks(9) = 1; letter(5, 3, 2, 0, 2) = 1; flow(0, 5) = 97; ticks(9) = 1; ticks(1) = 0");
        allowing("Flows: 'Whenever a letter passes and its flow remains', of sort 1").does(TO_STAGE[6] + "ticks(7) = 1; letter(3, 5, 2, 1, 2) = 1;"
                + "flow(0, 5) = 15; ticks(7) = 1; letter(5, 3, 2, 1, 2) = 1;"
                + "flow(0, 5) = 34; ticks(19) = 1; letter(3, 5, 2, 1, 2) = 1; flow(0, 5) = 53; ticks(19) = 1; ticks(1) = 0");
    }

    private static void openingLetters() {
        allowing("Flows: 'an open of sort 0 and a go of sort 1 are opening letters; everything else is stray'")
                .each("letter(3, 5, 2, 0, 0) = 1; letter(3, 5, 2, 0, 1) = 3; letter(3, 5, 2, 0, 2) = 3; letter(3, 5, 2, 0, 3) = 3;"
                + "letter(3, 5, 2, 0, 4) = 3;"
                        + "letter(3, 5, 2, 1, 0) = 3; letter(3, 5, 2, 1, 1) = 3; letter(3, 5, 2, 1, 2) = 1; letter(3, 5, 2, 1, 3) = 3;"
                        + "letter(3, 5, 2, 1, 4) = 3")
                .does("letter(3, 5, 2, 0, 4) = 3; of(0, 10) = 0; count(1) = 0; count(7) = 1; told(4) = 2");
        allowing("Flows: 'in stage 1 for sort 0, in stage 6 for sort 1'").does("letter(3, 5, 2, 0, 0) = 1; flow(0, 4) = 1;"
                + "letter(3, 5, 2, 1, 2) = 1; flow(1, 4) = 6; count(1) = 2");
        new Run("Flows: 'the hits of the rule that decides the case increase by 1', for each action")
                .does("rule(0, 0) = 1; letter(3, 5, 2, 0, 0) = 0; of(0, 10) = 1; sets(0, 9, 2) = 0;"
                + "letter(3, 5, 2, 0, 0) = 2; of(0, 10) = 2; sets(0, 9, 1) = 2; letter(3, 5, 2, 0, 0) = 1; of(0, 10) = 3; letter(3, 5, 2, 0, 0) = 3;"
                + "of(0, 10) = 3");
    }

    private static void eightFlows() {
        Run run = allowing("Flows: 'There are at most 8 flows', the eighth and the ninth").does(singles(8, false) + "count(1) = 8");
        for (int i = 0; i < 8; i++) {
            run.does("flow(" + i + ", 1) = " + (i + 1));
        }
        run.does("letter(0, 9, 0, 1, 2) = 1; count(1) = 8; flow(0, 1) = 2; flow(7, 1) = 9; flow(8, 1) = -1; count(9) = 0");
        allowing("Flows: with 7 flows none gives way").does(singles(7, false) + "letter(0, 9, 0, 1, 2) = 1; count(1) = 8; flow(0, 1) = 1;"
                + "flow(7, 1) = 9");
    }

    private static void givingWay() {
        allowing("Flows: 'the flow with the least due time of those in stage 1 or 6 (of several the oldest one)'")
                .does(singles(8, false) + "ticks(1) = 8; letter(0, 1, 0, 1, 2) = 1; letter(0, 2, 0, 1, 2) = 1;"
                + "letter(0, 9, 0, 1, 2) = 1; flow(0, 1) = 1; flow(1, 1) = 2; flow(2, 1) = 4; flow(7, 1) = 9");
        allowing("Flows: 'the flow with the least due time', the last one")
                .does("span(1, 9) = 5; span(6, 10) = 8; " + singles(7, false) + "letter(0, 8, 0, 0, 0) = 1; letter(0, 9, 0, 0, 0) = 1;"
                + "flow(0, 1) = 1;"
                + "flow(6, 1) = 7; flow(7, 1) = 9; count(1) = 8");
        allowing("Flows: 'of those in stage 1 or 6', others are due sooner")
                .does("span(7, 1) = 20; span(2, 1) = 5;" + singles(6, true) + "letter(0, 7, 0, 0, 0) = 1; letter(7, 0, 0, 0, 1) = 1;"
                + "letter(0, 8, 0, 1, 2) = 1;"
                + "flow(0, 5) = 1; flow(6, 5) = 1; flow(7, 5) = 8; letter(0, 9, 0, 0, 0) = 1; flow(6, 1) = 7; flow(7, 1) = 9;"
                + "letter(0, 10, 0, 1, 2) = 1; flow(7, 1) = 10; count(8) = 0");
        allowing("Flows: a letter that is denied or stray makes nothing give way").does(singles(8, false) + "sets(0, 9, 0) = 1;"
                + "letter(0, 9, 0, 1, 2) = 0; letter(0, 9, 0, 1, 0) = 3; count(1) = 8; flow(0, 1) = 1");
    }

    private static void noRoom() {
        allowing("Flows: 'if there is none, there is no room (.. or the hits increased)'")
                .does(singles(8, true) + "of(0, 10) = 8; letter(0, 9, 0, 1, 2) = 4; of(0, 10) = 9; count(8) = 1; count(1) = 8; flow(7, 1) = 8;"
                + "letter(0, 9, 0, 0, 0) = 4; of(0, 10) = 10; count(8) = 2; told(4) = 5; letter(0, 8, 0, 1, 4) = 1; letter(0, 9, 0, 1, 2) = 1;"
                + "flow(7, 1) = 9; letter(0, 10, 0, 1, 2) = 1; flow(7, 1) = 10");
        allowing("Flows: 'if there is none, there is no room (the announcement remains removed ..)'")
                .does(singles(8, true) + "announces(0, 1, 9) = 1; announces(0, 1, 9) = 2; letter(0, 1, 9, 1, 2) = 4; count(2) = 1;"
                + "of(0, 10) = 8; letter(0, 1, 9, 1, 2) = 4; count(2) = 0; of(0, 10) = 8; letter(0, 1, 9, 1, 2) = 4; of(0, 10) = 9; count(8) = 3");
        allowing("Flows: an announced letter makes a flow give way too").does(singles(7, true) + "letter(0, 8, 0, 1, 2) = 1; sets(0, 9, 0) = 1;"
                + "announces(0, 1, 9) = 1; letter(0, 1, 9, 1, 2) = 1; flow(7, 1) = 1; flow(7, 2) = 9; count(1) = 8");
        // no stage but 1 and 6 gives way
        for (int stage : new int[] {2, 3, 4, 5, 7}) {
            allowing("Flows: a flow in stage " + stage + " does not give way").does(TO_STAGE[stage] + singles(7, true) + "count(1) = 8;"
                    + "letter(0, 20, 0, 0, 0) = 4; flow(0, 4) = " + stage);
        }
        for (int stage : new int[] {1, 6}) {
            allowing("Flows: a flow in stage " + stage + " gives way").does(TO_STAGE[stage] + singles(7, true) + "count(1) = 8;"
                    + "letter(0, 20, 0, 0, 0) = 1; flow(0, 0) = 0; flow(7, 1) = 20");
        }
    }

    private static void oldestAnnouncement() {
        allowing("Flows: 'the oldest such announcement is removed'").does(TO_STAGE[3] + "announces(0, 0, 9) = 1; ticks(1) = 1;"
                + "announces(0, 0, 9) = 2; announces(0, 0, 8) = 3; letter(5, 3, 9, 0, 0) = 1; count(2) = 2;"
                + "ticks(9) = 1; count(2) = 2; ticks(1) = 1; count(2) = 0");
        allowing("Flows: 'If there is an announcement with the case', one number beside it").does(TO_STAGE[3] + "announces(0, 0, 9) = 1;"
                + "sets(0, 9, 0) = 1; letter(5, 3, 8, 0, 0) = 0; letter(5, 3, 10, 0, 0) = 0;"
                + "letter(5, 3, 9, 1, 2) = 0; letter(4, 3, 9, 0, 0) = 0; letter(6, 3, 9, 0, 0) = 0; letter(5, 2, 9, 0, 0) = 0;"
                + "letter(5, 4, 9, 0, 0) = 0; letter(3, 5, 9, 0, 0) = 0; count(2) = 1; letter(5, 3, 9, 0, 0) = 1; count(2) = 0");
        allowing("Flows: an announced letter asks no rule").does(TO_STAGE[3] + "announces(0, 0, 9) = 1; of(0, 10) = 1; letter(5, 3, 9, 0, 0) = 1;"
                + "of(0, 10) = 1");
        allowing("Flows: only an opening letter uses an announcement").does(TO_STAGE[3] + "announces(0, 0, 9) = 1; letter(5, 3, 9, 0, 1) = 3;"
                + "letter(5, 3, 9, 0, 2) = 3; letter(5, 3, 9, 0, 3) = 3; letter(5, 3, 9, 0, 4) = 3; count(2) = 1");
    }

    // ---- promise 18

    private static void announcesArguments() {
        new Run("Promise 18: 'BAD, also if there is no such flow', there is none").beyond("announces(#, 0, 0)", 0, -1);
        allowing("Promise 18: 'i: index of the flow .. from 0'").does(singles(8, true)).each("announces(0, 0, 0) = 1; announces(7, 0, 0) = 1")
                .beyond("announces(#, 0, 0)", 0, 7);
        allowing("Promise 18: 'way: 0 .. 1'").does(TO_STAGE[3]).each("announces(0, 0, 0) = 1; announces(0, 1, 0) = 1")
                .beyond("announces(0, #, 0)", 0, 1);
        allowing("Promise 18: 'port: 0 to 15'").does(TO_STAGE[7]).each("announces(0, 0, 0) = 1; announces(0, 0, 15) = 1")
                .beyond("announces(0, 0, #)", 0, 15);
    }

    private static void announcesStages() {
        for (int stage : new int[] {1, 2, 4, 5, 6}) {
            allowing("Promise 18: 'NO if its stage is neither 3 nor 7', " + stage).does(TO_STAGE[stage])
                    .fails(NO, "announces(0, 0, 0); announces(0, 1, 15)").does("told(1) = 2; count(2) = 0");
        }
        for (int stage : new int[] {3, 7}) {
            allowing("Promise 18: 'NO if its stage is neither 3 nor 7', " + stage).does(TO_STAGE[stage] + "announces(0, 0, 0) = 1; count(2) = 1;"
                    + "told(1) = 0");
        }
        allowing("Promise 18: the flow of the index, and no other").does(TO_STAGE[7] + "letter(3, 6, 2, 0, 0) = 1; announces(0, 0, 0) = 1")
                .fails(NO, "announces(1, 0, 0)").fails(BAD, "announces(2, 0, 0)");
    }

    private static void sixAnnouncements() {
        Run run = allowing("Promise 18: 'FULL if there are already 6'").does(TO_STAGE[3]);
        for (int n = 1; n <= 6; n++) {
            run.does("announces(0, 0, 9) = " + n);
        }
        run.fails(FULL, "announces(0, 0, 9); announces(0, 1, 0)").does("count(2) = 6; told(2) = 2; letter(5, 3, 9, 0, 0) = 1; count(2) = 5;"
                + "announces(0, 1, 4) = 6; announces(0, 1, 4) = -4");
        allowing("Promise 18: room again when announcements are over").does(TO_STAGE[3]).repeats(6, "announces(0, 0, 9) = 1; back() = 4")
                .does("announces(0, 0, 9) = 1; announces(0, 0, 9) = 2; announces(0, 0, 9) = 3;"
                + "announces(0, 0, 9) = 4; announces(0, 0, 9) = 5; announces(0, 0, 9) = 6; ticks(9) = 1; announces(0, 0, 9) = -4; ticks(1) = 1;"
                + "announces(0, 0, 9) = 1");
    }

    private static void announcesOrder() {
        Run run = allowing("Error codes: 'They are checked in this order', BAD before NO before FULL (promise 18)").does(TO_STAGE[3]);
        run.does("announces(0, 0, 1) = 1; announces(0, 0, 2) = 2; announces(0, 0, 3) = 3; announces(0, 0, 4) = 4; announces(0, 0, 5) = 5;"
                + "announces(0, 0, 6) = 6; letter(3, 6, 2, 0, 0) = 1");
        run.fails(BAD, "announces(2, 0, 0); announces(1, 2, 0); announces(1, 0, 16); announces(0, -1, 0)").fails(NO, "announces(1, 0, 0)")
                .fails(FULL, "announces(0, 0, 0)")
                .does("told(0) = 4; told(1) = 1; told(2) = 1; letter(3, 6, 2, 0, 4) = 1").fails(BAD, "announces(1, 0, 0)");
    }

    private static void announcesUntil() {
        allowing("Promise 18: 'It lasts until the time plus 10'").does(TO_STAGE[3] + "announces(0, 0, 9) = 1").each("ticks(9) = 1; ticks(10) = 1")
                .does("ticks(9) = 1; count(2) = 1; letter(5, 3, 9, 0, 0) = 1; count(2) = 0");
        allowing("Promise 19: 'all announcements that last until a time not greater than it'")
                .does(TO_STAGE[3] + "ticks(3) = 1; announces(0, 0, 9) = 1; ticks(1) = 1; announces(0, 0, 9) = 2; ticks(8) = 1; count(2) = 2;"
                + "ticks(1) = 1;"
                + "count(2) = 1; ticks(1) = 1; count(2) = 0; count(9) = 0");
        allowing("Promise 19: an announcement is over when its time has come").does(TO_STAGE[3] + "announces(0, 0, 9) = 1; sets(0, 9, 0) = 1;"
                + "ticks(10) = 1; count(2) = 0; letter(5, 3, 9, 0, 0) = 0");
    }

    private static void announcesWays() {
        allowing("Promise 18: '0 if the other side will open to the opener'").does(TO_STAGE[3] + "announces(0, 0, 15) = 1; sets(0, 9, 0) = 1")
                .each("letter(5, 3, 15, 0, 0) = 1; letter(3, 5, 15, 0, 0) = 0");
        allowing("Promise 18: '1 if the opener will open to the other side'").does(TO_STAGE[3] + "announces(0, 1, 0) = 1; sets(0, 9, 0) = 1")
                .each("letter(3, 5, 0, 0, 0) = 1; letter(5, 3, 0, 0, 0) = 0");
        allowing("Promise 18: 'of the sort of the flow'").does(TO_STAGE[7] + "announces(0, 1, 0) = 1; sets(0, 9, 0) = 1")
                .each("letter(3, 5, 0, 1, 2) = 1; letter(3, 5, 0, 0, 0) = 0");
    }

    // ---- promises 19 and 20

    private static void ticksArguments() {
        new Run("Promise 19: 'n: 1 to 100'").each("ticks(1) = 0; ticks(100) = 0").beyond("ticks(#)", 1, 100)
                .does("count(3) = 0; ticks(1) = 0; count(3) = 1; ticks(100) = 0; count(3) = 101");
    }

    private static void ticksFlows() {
        for (int stage = 1; stage <= 7; stage++) {
            int span = FIRST_SPANS[stage - 1];
            allowing("Promise 19: 'all flows whose due time is not greater than the time are removed', stage " + stage).does(TO_STAGE[stage])
                    .each("ticks(" + (span - 1) + ") = 1; ticks(" + span + ") = 0; ticks(" + (span + 1) + ") = 0")
                    .does("ticks(" + (span - 1) + ") = 1; count(9) = 0; ticks(1) = 0; count(9) = 1; flow(0, 0) = -1");
        }
        allowing("Promise 19: 'Returns how many flows are left', all eight and none").does(singles(8, false) + "ticks(7) = 8; count(9) = 0;"
                + "ticks(1) = 0; count(9) = 8");
        allowing("Promise 19: some go, the others stay in their order").does(singles(3, false) + "letter(1, 0, 0, 1, 2) = 1;"
                + "letter(3, 0, 0, 1, 2) = 1; letter(0, 4, 0, 0, 0) = 1; letter(0, 5, 0, 1, 2) = 1; ticks(5) = 4; flow(3, 1) = 5; ticks(3) = 2;"
                + "flow(0, 1) = 1; flow(1, 1) = 3; flow(2, 1) = -1; count(9) = 3");
    }

    private static void timeAtFirst() {
        allowing("Flows: 'The time is 0 at first'").does("count(3) = 0; letter(3, 5, 2, 0, 0) = 1; flow(0, 5) = 5; count(3) = 0; ticks(1) = 1; count(3) = 1");
    }

    private static void ticksNothing() {
        new Run("Promise 19: without flows and announcements").does("ticks(100) = 0; count(9) = 0; count(2) = 0; told(4) = 1; back() = 0;"
                + "count(3) = 0");
    }

    private static void spanArguments() {
        new Run("Promise 20: 'g: the stage, 1 to 7'").each("span(1, 9) = 5; span(7, 9) = 20").beyond("span(#, 9)", 1, 7);
        for (int stage = 1; stage <= 7; stage++) {
            int span = FIRST_SPANS[stage - 1];
            String call = "span(" + stage + ", #)";
            new Run("Promise 20: 'v: 1 to 100', and the span at first, stage " + stage).each(call.replace("#", "1") + " = " + span + ";"
                    + call.replace("#", "100") + " = " + span).beyond(call, 1, 100)
                    .does(call.replace("#", "100") + " = " + span + "; " + call.replace("#", "1") + " = 100; " + call.replace("#", "1") + " = 1;"
                    + "told(4) = 3");
        }
    }

    private static void spanLater() {
        allowing("Promise 20: 'Due times that are set already do not change.'").does(TO_STAGE[1] + "span(1, 100) = 5; flow(0, 5) = 5; ticks(4) = 1;"
                + "span(1, 1) = 100; flow(0, 5) = 5; ticks(1) = 0");
        allowing("Promise 20: the next letter takes the new span, the least and the greatest")
                .does("span(1, 1) = 5; span(6, 100) = 8;" + TO_STAGE[1] + TO_STAGE[6] + "flow(0, 5) = 1; flow(1, 5) = 100; ticks(1) = 1;"
                + "ticks(98) = 1; ticks(1) = 0");
    }

    // ---- promise 21

    private static void cutsFlows() {
        new Run("Promise 21: without flows").does("cuts() = 0; told(4) = 1");
        allowing("Promise 21: none goes").does(singles(8, false) + "cuts() = 0; count(1) = 8");
        allowing("Promise 21: all eight go").does(singles(8, true) + "drops(0) = 0; cuts() = 8; count(1) = 0; count(9) = 0; cuts() = 0");
        allowing("Promise 21: the first and the last go").does(singles(8, true) + "sets(0, 4, 2) = 0; sets(0, 5, 7) = 31; cuts() = 2; count(1) = 6;"
                + "flow(0, 1) = 2; flow(5, 1) = 7");
    }

    private static void cutsActions() {
        for (int action = 0; action <= 2; action++) {
            allowing("Promise 21: 'whose case does not have the action allow', action " + action)
                    .does(TO_STAGE[1] + "sets(0, 9, " + action + ") = 1; cuts() = " + (action == 1 ? 0 : 1) + ";"
                    + "count(1) = " + (action == 1 ? 1 : 0) + "; of(0, 10) = 1");
        }
        allowing("Promise 21: 'by the present rules', none fits").does(TO_STAGE[1] + "sets(0, 6, 3) = 0; cuts() = 1");
        allowing("Promise 21: 'by the present rules', the last port that fits").does(TO_STAGE[1] + "sets(0, 6, 2) = 0; sets(0, 7, 2) = 15;"
                + "cuts() = 0; count(1) = 1");
        allowing("Promise 21: a flow that was announced is cut where the rules don't allow it").does(TO_STAGE[3] + "announces(0, 0, 9) = 1;"
                + "sets(0, 7, 8) = 15; letter(5, 3, 9, 0, 0) = 1; cuts() = 1; count(1) = 1; flow(0, 2) = 2");
        allowing("Promise 21: announcements stay").does(TO_STAGE[3] + "announces(0, 0, 9) = 1; drops(0) = 0; cuts() = 1; count(2) = 1;"
                + "letter(5, 3, 9, 0, 0) = 1");
    }

    // ---- promise 22

    private static void flowArguments() {
        allowing("Promise 22: 'BAD if i is negative'").does(TO_STAGE[1]).each("flow(0, 0) = 3").fails(BAD, "flow(-1, 0); flow(-2147483648, 0)");
        allowing("Promise 22: 'what: 0 .. 6'").does(TO_STAGE[1]).each("flow(0, 0) = 3; flow(0, 6) = -1").beyond("flow(0, #)", 0, 6);
        new Run("Promise 22: BAD comes before NONE").fails(BAD, "flow(0, 7); flow(0, -1); flow(-1, 0); flow(2147483647, 7)");
    }

    private static void flowNone() {
        new Run("Promise 22: 'NONE if there are not so many flows', there is none").does("flow(0, 0) = -1; flow(0, 6) = -1; flow(1, 0) = -1;"
                + "flow(2147483647, 0) = -1; told(0) = 0");
        allowing("Promise 22: 'NONE if there are not so many flows', behind the last").does(singles(2, false) + "flow(1, 1) = 2; flow(2, 1) = -1;"
                + "flow(2, 6) = -1; told(0) = 0");
        allowing("Promise 22: 'NONE if there are not so many flows', of eight").does(singles(8, false) + "flow(7, 1) = 8; flow(8, 1) = -1;"
                + "flow(9, 1) = -1; flow(2147483647, 6) = -1; told(0) = 0");
    }

    private static void flowEnded() {
        for (int stage : new int[] {1, 2, 3, 6, 7}) {
            allowing("Promise 22: 'for what = 6 if nobody has ended', stage " + stage).does(TO_STAGE[stage] + "flow(0, 4) = " + stage + ";"
                    + "flow(0, 6) = -1");
        }
        allowing("Promise 22: '0 the opener'").does(TO_STAGE[4] + "flow(0, 6) = 0; letter(5, 3, 2, 0, 2) = 1; flow(0, 6) = 0");
        allowing("Promise 22: '1 the other side'").does(TO_STAGE[3] + "letter(5, 3, 2, 0, 3) = 1; flow(0, 6) = 1; letter(3, 5, 2, 0, 2) = 1;"
                + "flow(0, 6) = 1");
        // read as: the one who ended in stage 3 stays the one who has ended
        allowing("Promise 22: who has ended, in stage 5").does(TO_STAGE[5] + "flow(0, 4) = 5; flow(0, 6) = 0");
        allowing("Promise 22: who has ended is forgotten with the flow")
                .does(TO_STAGE[4] + "letter(3, 5, 2, 0, 4) = 1;" + TO_STAGE[3] + "flow(0, 6) = -1");
    }

    // ---- promise 23

    private static void countArguments() {
        new Run("Promise 23: 'what: 0 .. 9'").each("count(0) = 0; count(9) = 0").beyond("count(#)", 0, 9);
    }

    private static void countEach() {
        allowing("Promise 23: '4 passed', the letters of a flow too").does("count(4) = 0;" + TO_STAGE[5] + "count(4) = 5; letter(3, 5, 2, 0, 4) = 1;"
                + "count(4) = 6; count(5) = 0; count(6) = 0; count(7) = 0; count(8) = 0; count(9) = 0");
        allowing("Promise 23: '9 how many flows were removed because they were due', no other way")
                .does(singles(8, false) + "letter(0, 9, 0, 1, 2) = 1; letter(0, 9, 0, 1, 4) = 1; count(9) = 0; sets(0, 4, 3) = 0; cuts() = 1;"
                + "count(1) = 6; count(9) = 0;"
                + "ticks(8) = 0; count(9) = 6");
        new Run("Promise 23: '0 rules', none and twelve").does("count(0) = 0; rule(0, 1) = 1; rule(0, 1) = 2; rule(0, 1) = 3; rule(0, 1) = 4;"
                + "rule(0, 1) = 5; rule(0, 1) = 6; rule(0, 1) = 7; rule(0, 1) = 8;"
                + "rule(0, 1) = 9; rule(0, 1) = 10; rule(0, 1) = 11; rule(0, 1) = 12; count(0) = 12; rule(0, 1) = -4; count(0) = 12");
    }

    /** The greatest time that 512 calls can reach. */
    private static void manyTicks() {
        new Run("What it is: 'at most 512 calls', of time").repeats(511, "ticks(100) = 0").does("count(3) = 51100");
        allowing("What it is: 'at most 512 calls', due times late").repeats(500, "ticks(100) = 0")
                .does(TO_STAGE[3] + "flow(0, 5) = 50040; announces(0, 0, 9) = 1; ticks(39) = 1; count(2) = 0; ticks(1) = 0; count(9) = 1");
    }
}
