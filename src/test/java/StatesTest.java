/** Promises 27 to 29: remembered states, told, digest. */
public final class StatesTest {
    private static final int BAD = -2, NO = -3;

    /** Calls that bring something of everything into the state. */
    private static final String SOME = "rule(0, 1) = 1; letter(3, 5, 2, 0, 0) = 1; letter(5, 3, 2, 0, 1) = 1; letter(3, 5, 2, 0, 2) = 1;"
            + "announces(0, 0, 1) = 1;";

    public static void main(String[] args) {
        remembering();
        takingBack();
        atMostFive();
        telling();
        digests();
        Run.end();
    }

    /** Every method that remembers does so also if it changes nothing; the others don't. */
    private static void remembering() {
        for (String call : new String[] {"zone(0, 0, 31) = 0", "rule(0, 0) = 1", "keeps() = 0", "takes() = 0", "letter(1, 2, 3, 0, 4) = 3",
            "letter(1, 2, 3, 0, 0) = 0", "ticks(1) = 0", "span(1, 5) = 5", "cuts() = 0", "reads() = 0"}) {
            new Run("Promise 27, " + call).does(call + "; told(4) = 1; back() = 0; told(4) = 0");
        }
        for (String call : new String[] {"sets(0, 9, 1) = 1", "drops(0) = 0", "moves(0, 0) = 0"}) {
            new Run("Promise 27, " + call).does("rule(0, 1) = 1; " + call + "; told(4) = 2; back() = 1; of(0, 9) = 1; back() = 0; count(0) = 0");
        }
        new Run("Promise 27, announces").does("rule(0, 1) = 1; letter(3, 5, 2, 1, 2) = 1; letter(5, 3, 2, 1, 2) = 1; told(4) = 3;"
                + "announces(0, 0, 1) = 1; told(4) = 4; back() = 3; count(2) = 0; flow(0, 4) = 7");
        new Run("Promise 27, what does not remember").does("rule(0, 1) = 1; zoneOf(0) = 0; of(0, 0) = 6; decides(0, 0, 0, 0) = 0;"
                + "cases(0, 0) = 32768;"
                + "idle(0, 1) = 0; all(1) = 32768; change(0) = 32768; flow(0, 0) = -1; count(0) = 1; type(9) = 1; reads() = -10; clear() = 1;"
                + "type(32) = 1;"
                + "told(3) = 1; told(4) = 1; rule(9, 9) = -2; told(4) = 1; back() = 0");
        new Run("Promise 27, none").fails(NO, "back(); back()").does("told(1) = 2; rule(0, 0) = 1; back() = 0").fails(NO, "back()");
    }

    /** Each part of the state comes back, the text and the counts of errors stay. */
    private static void takingBack() {
        new Run("Promise 27, zones").does("zone(1, 3, 4) = 2; zone(2, 4, 5) = 2; back() = 1; zoneOf(3) = 1; zoneOf(4) = 1; zoneOf(5) = 0;"
                + "back() = 0; zoneOf(3) = 0");
        new Run("Promise 27, rules").does("rule(0, 2) = 1; sets(0, 3, 9) = 31; letter(0, 0, 0, 0, 0) = 2; moves(0, 0) = 0; drops(0) = 0; back() = 4;"
                + "of(0, 3) = 9; of(0, 10) = 1; count(6) = 1; back() = 3; back() = 2; of(0, 10) = 0; count(6) = 0; back() = 1; of(0, 3) = 31;"
                + "back() = 0; count(0) = 0");
        new Run("Promise 27, kept rules").does("rule(0, 1) = 1; keeps() = 1; change(0) = 0; back() = 1; change(0) = 32768; keeps() = 1;"
                + "drops(0) = 0; keeps() = 0;"
                + "change(0) = 0; back() = 3; change(0) = 32768; takes() = 1; back() = 3; count(0) = 0; back() = 2; count(0) = 1");
        new Run("Promise 27, flows").does(SOME + "ticks(2) = 1; letter(5, 3, 2, 0, 3) = 1; flow(0, 4) = 4; back() = 4; flow(0, 4) = 3;"
                + "flow(0, 5) = 40; flow(0, 6) = -1;"
                + "letter(3, 5, 2, 0, 4) = 1; count(1) = 0; back() = 4; count(1) = 1; flow(0, 0) = 3; ticks(100) = 0; count(9) = 1; count(2) = 0;"
                + "back() = 4;"
                + "count(9) = 0; count(2) = 1; count(3) = 2; count(1) = 1; back() = 3; count(3) = 0; back() = 2; count(2) = 0; count(4) = 3");
        new Run("Promise 27, announcements").does(SOME + "drops(0) = 0; letter(5, 3, 1, 0, 0) = 1; count(2) = 0; back() = 4; count(2) = 1;"
                + "letter(5, 3, 1, 0, 0) = 1");
        new Run("Promise 27, spans").does("span(3, 7) = 40; span(3, 8) = 7; back() = 1; span(3, 9) = 7; back() = 1; back() = 0; span(3, 1) = 40");
        new Run("Promise 27, letters").does("letter(0, 0, 0, 0, 0) = 0; letter(0, 0, 0, 0, 1) = 3; count(5) = 1; count(7) = 1; back() = 1;"
                + "count(5) = 1; count(7) = 0;"
                + "back() = 0; count(5) = 0");
        new Run("Promise 27, what stays").does("rule(0, 1) = 1; type(100) = 1; rule(9, 9) = -2; letter(9, 9, 9, 9, 9) = -2; announces(0, 0, 0) = -2;"
                + "back() = 0;"
                + "told(0) = 3; told(3) = 1; type(101) = 2; back() = -3; told(1) = 1");
        Run room = new Run("Promise 27, no room").does("rule(0, 1) = 1");
        for (int goal = 1; goal <= 8; goal++) {
            room.does("letter(0, " + goal + ", 0, 1, 2) = 1; letter(" + goal + ", 0, 0, 1, 2) = 1");
        }
        room.does("letter(0, 9, 0, 1, 2) = 4; count(8) = 1; of(0, 10) = 9; back() = 4; count(8) = 0; of(0, 10) = 8");
    }

    private static void atMostFive() {
        new Run("Promise 27, five").does("span(1, 11) = 5; span(1, 12) = 11; span(1, 13) = 12; span(1, 14) = 13; span(1, 15) = 14; told(4) = 5;"
                + "span(1, 16) = 15; told(4) = 5; span(1, 17) = 16; told(4) = 5; back() = 4; back() = 3; back() = 2; back() = 1; back() = 0;"
                + "told(4) = 0")
                .fails(NO, "back()").does("span(1, 1) = 12; told(4) = 1; back() = 0; span(1, 1) = 12");
        new Run("Promise 27, there and back").repeats(20, "span(2, 6) = 5; span(2, 7) = 6; span(2, 8) = 7; back() = 2; back() = 1; back() = 0");
    }

    private static void telling() {
        new Run("Promise 28").fails(BAD, "told(-1); told(5)").does("told(0) = 2; told(1) = 0; told(2) = 0; back() = -3; told(1) = 1; type(64) = 1;"
                + "told(3) = 1;"
                + "cuts() = 0; told(4) = 1").repeats(119, "told(2) = 0; cuts() = 0").does("told(4) = 5");
        Run full = new Run("Promise 28, each kind");
        for (int n = 1; n <= 12; n++) {
            full.does("rule(0, 1) = " + n);
        }
        full.does("rule(0, 1) = -4; rule(0, 5) = -2; rule(0, 1) = -4; told(0) = 1; told(1) = 0; told(2) = 2; flow(0, 0) = -1; told(0) = 1");
    }

    /** The hash is worked out here from the answers of the other methods. */
    private static void digests() {
        ZoneGuard guard = new ZoneGuard();
        Run.same("Promise 29, new", guard.digest(), digestOf(guard, new int[] {5, 5, 40, 10, 3, 8, 20}));
        guard.zone(3, 30, 31);
        guard.zone(9, 9, 9);
        guard.rule(0, 1);
        guard.rule(0, 2);
        guard.sets(0, 7, 3);
        guard.letter(1, 2, 3, 0, 0);
        guard.letter(1, 2, 4, 0, 0);
        guard.letter(1, 2, 4, 1, 2);
        guard.letter(2, 1, 4, 0, 1);
        guard.letter(1, 2, 4, 0, 2);
        guard.letter(2, 1, 4, 0, 3);
        guard.type(64);
        guard.ticks(9);
        guard.span(7, 99);
        guard.span(1, 98);
        guard.announces(0, 0, 0);
        Run.same("Promise 29", guard.digest(), digestOf(guard, new int[] {98, 5, 40, 10, 3, 8, 99}));
        Run.same("Promise 29, twice", guard.digest(), digestOf(guard, new int[] {98, 5, 40, 10, 3, 8, 99}));
        guard.back();
        Run.same("Promise 29, back", guard.digest(), digestOf(guard, new int[] {5, 5, 40, 10, 3, 8, 99}));
    }

    private static long digestOf(ZoneGuard guard, int[] spans) {
        long h = 2573;
        for (int what = 0; what < 5; what++) {
            h = 31 * h + guard.told(what);
        }
        for (int what = 0; what < 10; what++) {
            h = 31 * h + guard.count(what);
        }
        for (int a = 0; a < 32; a++) {
            h = 31 * h + guard.zoneOf(a);
        }
        for (int r = 0; r < guard.count(0); r++) {
            for (int what = 0; what <= 10; what++) {
                h = 31 * h + guard.of(r, what);
            }
        }
        for (int i = 0; i < guard.count(1); i++) {
            for (int what = 0; what <= 6; what++) {
                h = 31 * h + guard.flow(i, what);
            }
        }
        for (int span : spans) {
            h = 31 * h + span;
        }
        return h;
    }
}
