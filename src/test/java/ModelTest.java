import java.util.Arrays;
import java.util.Random;

/** Long runs of chosen-by-lot calls, each answer compared with the model's; the seeds are fixed. */
public final class ModelTest {
    private static final int RUNS = 300, CALLS = 512;
    private static final String[] WORDS = {"deny", "allow", "reject", "from", "to", "src", "dst", "port", "stream", "single", "x"};

    /** How often letters, changes, questions about rules, texts, announcements, time, back, other questions and wild calls come. */
    private static final int[][] WEIGHTS = {
        {30, 20, 6, 2, 8, 5, 6, 16, 7},
        {75, 0, 0, 0, 6, 2, 2, 13, 2},
        {60, 4, 0, 0, 10, 4, 3, 15, 4},
        {5, 50, 25, 0, 0, 1, 8, 6, 3},
        {10, 4, 4, 20, 0, 2, 4, 8, 4},
    };

    private final Random random;
    private final Model model = new Model();
    private final ZoneGuard guard = new ZoneGuard();
    private final int seed;
    private final int addresses;
    private int made = 0;

    private ModelTest(int seed) {
        this.seed = seed;
        random = new Random(seed);
        addresses = seed % 2 == 0 ? 32 : 5;
    }

    public static void main(String[] args) {
        for (int seed = 0; seed < RUNS; seed++) {
            new ModelTest(seed).run();
        }
        Run.end();
    }

    private void run() {
        // without a rule that allows, runs would seldom come to flows
        call("rule", 0, 1);
        while (made < CALLS - 1) {
            step();
        }
        call("digest");
    }

    private void step() {
        int[] weights = WEIGHTS[seed % WEIGHTS.length];
        int choice = random.nextInt(Arrays.stream(weights).sum());
        int kind = 0;
        while (choice >= weights[kind]) {
            choice -= weights[kind];
            kind++;
        }
        switch (kind) {
            case 0: letter(); break;
            case 1: change(); break;
            case 2: analyse(); break;
            case 3: text(); break;
            case 4: call("announces", random.nextInt(Math.max(1, model.flows())), random.nextInt(2), random.nextInt(4)); break;
            case 5: call("ticks", 1 + random.nextInt(random.nextInt(8) == 0 ? 40 : 3)); break;
            case 6: call("back"); break;
            case 7: ask(); break;
            default: wild();
        }
    }

    /** Mostly a letter of a flow that is there, so that flows come into all stages. */
    private void letter() {
        if (model.flows() > 0 && random.nextInt(4) != 0) {
            int[] f = model.flowAt(random.nextInt(model.flows()));
            int sign = random.nextInt(40) == 0 ? 4 : f[3] == 1 ? 2 : random.nextInt(4);
            if (random.nextBoolean()) {
                call("letter", f[0], f[1], f[2], f[3], sign);
            } else {
                call("letter", f[1], f[0], f[2], f[3], sign);
            }
            return;
        }
        int sort = random.nextInt(2);
        call("letter", address(), address(), random.nextInt(4), sort, random.nextInt(6) == 0 ? random.nextInt(5) : 2 * sort);
    }

    private int address() {
        return random.nextInt(addresses);
    }

    private int rule() {
        return random.nextInt(model.rules() + (random.nextInt(8) == 0 ? 1 : 0) + (model.rules() == 0 ? 1 : 0));
    }

    private void change() {
        switch (random.nextInt(12)) {
            case 0: call("zone", random.nextInt(3), address(), address()); break;
            case 1: case 2: call("rule", rule(), random.nextInt(3)); break;
            case 3: case 4: case 5: case 6: sets(); break;
            case 7: call("drops", rule()); break;
            case 8: call("moves", rule(), rule()); break;
            case 9: call(random.nextInt(3) == 0 ? "takes" : "keeps"); break;
            case 10: call("span", 1 + random.nextInt(7), 1 + random.nextInt(20)); break;
            default:
                if (random.nextInt(4) == 0) {
                    call("cuts");
                } else {
                    call("of", rule(), 10);
                }
        }
    }

    private void sets() {
        int what = random.nextInt(10);
        int least = what % 2 == 0 ? 0 : what < 6 ? addresses - 2 : 2;
        int v = what < 2 ? random.nextInt(3) + 4 * random.nextInt(2) : what < 8 ? least + random.nextInt(3) : random.nextInt(3);
        call("sets", rule(), what, v);
    }

    private void analyse() {
        switch (random.nextInt(6)) {
            case 0: call("cases", rule(), random.nextInt(2)); break;
            case 1: call("idle", rule(), random.nextInt(2)); break;
            case 2: call("contradicts", rule(), rule()); break;
            case 3: call("all", random.nextInt(3)); break;
            default: call("change", random.nextInt(7));
        }
    }

    private void ask() {
        switch (random.nextInt(8)) {
            case 0: call("zoneOf", address()); break;
            case 1: call("of", rule(), random.nextInt(11)); break;
            case 2: call("decides", address(), address(), random.nextInt(16), random.nextInt(2)); break;
            case 3: call("count", random.nextInt(10)); break;
            case 4: call("told", random.nextInt(5)); break;
            case 5: call("digest"); break;
            default: call("flow", random.nextInt(9), random.nextInt(7));
        }
    }

    /** A text that is right for a while, then mostly not. */
    private void text() {
        StringBuilder s = new StringBuilder();
        int rules = random.nextInt(10) == 0 ? 14 : random.nextInt(4);
        for (int k = 0; k < rules; k++) {
            s.append(WORDS[random.nextInt(random.nextInt(12) == 0 ? WORDS.length : 3)]);
            if (rules < 14) {
                parts(s);
            }
            s.append(random.nextInt(40) == 0 ? "" : ";");
        }
        if (random.nextInt(6) == 0 && s.length() > 0) {
            s.setLength(random.nextInt(s.length()));
        }
        if (random.nextInt(6) == 0 && s.length() > 0) {
            s.setCharAt(random.nextInt(s.length()), (char) random.nextInt(128));
        }
        call("clear");
        for (int k = 0; k < s.length() && made < CALLS - 20; k++) {
            call("type", s.charAt(k));
        }
        call("reads");
    }

    private void parts(StringBuilder s) {
        for (int k = random.nextInt(4); k > 0; k--) {
            int word = 3 + random.nextInt(random.nextInt(20) == 0 ? 8 : 7);
            s.append(' ').append(WORDS[word]);
            int numbers = word < 5 ? 1 : word < 8 ? 2 : 0;
            for (int n = 0; n < numbers; n++) {
                s.append(' ').append(random.nextInt(word < 5 ? 8 : random.nextInt(20) == 0 ? 200 : 18));
            }
        }
    }

    /** Any method with numbers from everywhere. */
    private void wild() {
        String[] names = {"zone", "zoneOf", "rule", "sets", "drops", "moves", "of", "decides", "cases", "idle", "contradicts", "change",
            "all", "letter", "announces", "ticks", "span", "flow", "count", "type", "told"};
        int[] sizes = {3, 1, 2, 3, 1, 2, 2, 4, 2, 2, 2, 1, 1, 5, 3, 1, 2, 2, 1, 1, 1};
        int k = random.nextInt(names.length);
        int[] x = new int[sizes[k]];
        int[] edges = {-1, 0, 1, 2, 5, 6, 7, 8, 10, 11, 12, 15, 16, 31, 32, 100, 101, 127, 128, Integer.MIN_VALUE, Integer.MAX_VALUE};
        for (int i = 0; i < x.length; i++) {
            x[i] = random.nextInt(3) == 0 ? edges[random.nextInt(edges.length)] : random.nextInt(3);
        }
        call(names[k], x);
    }

    private void call(String name, int... x) {
        made++;
        Run.same("seed " + seed + ", call " + made + ": " + name + Arrays.toString(x), answer(name, x), model.call(name, x));
    }

    private long answer(String name, int[] x) {
        switch (name) {
            case "zone": return guard.zone(x[0], x[1], x[2]);
            case "zoneOf": return guard.zoneOf(x[0]);
            case "rule": return guard.rule(x[0], x[1]);
            case "sets": return guard.sets(x[0], x[1], x[2]);
            case "drops": return guard.drops(x[0]);
            case "moves": return guard.moves(x[0], x[1]);
            case "of": return guard.of(x[0], x[1]);
            case "keeps": return guard.keeps();
            case "takes": return guard.takes();
            case "decides": return guard.decides(x[0], x[1], x[2], x[3]);
            case "cases": return guard.cases(x[0], x[1]);
            case "idle": return guard.idle(x[0], x[1]);
            case "contradicts": return guard.contradicts(x[0], x[1]);
            case "change": return guard.change(x[0]);
            case "all": return guard.all(x[0]);
            case "letter": return guard.letter(x[0], x[1], x[2], x[3], x[4]);
            case "announces": return guard.announces(x[0], x[1], x[2]);
            case "ticks": return guard.ticks(x[0]);
            case "span": return guard.span(x[0], x[1]);
            case "cuts": return guard.cuts();
            case "flow": return guard.flow(x[0], x[1]);
            case "count": return guard.count(x[0]);
            case "type": return guard.type(x[0]);
            case "clear": return guard.clear();
            case "reads": return guard.reads();
            case "back": return guard.back();
            case "told": return guard.told(x[0]);
            case "digest": return guard.digest();
            default: throw new IllegalArgumentException(name);
        }
    }
}
