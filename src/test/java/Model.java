import java.util.ArrayDeque;
import java.util.ArrayList;
import java.util.Deque;
import java.util.List;

/**
 * A second ZoneGuard, written from the document without a look at speed: it asks
 * about every case one by one, copies whole states, and splits the text into tokens.
 */
final class Model {
    private static final int NONE = -1, BAD = -2, NO = -3, FULL = -4;

    /** A flow or an announcement. */
    private static final class Entry {
        int source, goal, port, sort, stage, due, ended = NONE;

        Entry(int source, int goal, int port, int sort) {
            this.source = source;
            this.goal = goal;
            this.port = port;
            this.sort = sort;
        }

        Entry copy() {
            Entry e = new Entry(source, goal, port, sort);
            e.stage = stage;
            e.due = due;
            e.ended = ended;
            return e;
        }

        boolean is(int s, int g, int p, int k) {
            return source == s && goal == g && port == p && sort == k;
        }
    }

    private static final class World {
        int[] zones = new int[32];
        List<int[]> rules = new ArrayList<>();
        List<int[]> kept = new ArrayList<>();
        List<Entry> flows = new ArrayList<>();
        List<Entry> announcements = new ArrayList<>();
        int[] spans = {0, 5, 5, 40, 10, 3, 8, 20};
        int time;
        int[] counts = new int[10];

        World copy() {
            World w = new World();
            w.zones = zones.clone();
            w.rules = copyRules(rules, true);
            w.kept = copyRules(kept, true);
            for (Entry e : flows) {
                w.flows.add(e.copy());
            }
            for (Entry e : announcements) {
                w.announcements.add(e.copy());
            }
            w.spans = spans.clone();
            w.time = time;
            w.counts = counts.clone();
            return w;
        }
    }

    private World world = new World();
    private final Deque<World> past = new ArrayDeque<>();
    private final StringBuilder text = new StringBuilder();
    private final int[] errors = new int[3];

    private static List<int[]> copyRules(List<int[]> rules, boolean withHits) {
        List<int[]> copy = new ArrayList<>();
        for (int[] rule : rules) {
            int[] c = rule.clone();
            if (!withHits) {
                c[10] = 0;
            }
            copy.add(c);
        }
        return copy;
    }

    private static int[] anyRule(int action) {
        return new int[] {6, 6, 0, 31, 0, 31, 0, 15, 2, action, 0};
    }

    private void remember() {
        past.addLast(world.copy());
        if (past.size() > 5) {
            past.removeFirst();
        }
    }

    /** Makes a call, named and with its arguments, and answers what is due. */
    long call(String name, int... x) {
        long answer = answer(name, x);
        boolean mayFail = !name.equals("reads") && !name.equals("digest");
        if (mayFail && answer <= BAD && answer >= FULL) {
            errors[(int) (BAD - answer)]++;
        }
        return answer;
    }

    private long answer(String name, int[] x) {
        switch (name) {
            case "zone": return zone(x[0], x[1], x[2]);
            case "zoneOf": return x[0] < 0 || x[0] > 31 ? BAD : world.zones[x[0]];
            case "rule": return rule(x[0], x[1]);
            case "sets": return sets(x[0], x[1], x[2]);
            case "drops": return drops(x[0]);
            case "moves": return moves(x[0], x[1]);
            case "of": return noRule(x[0]) || x[1] < 0 || x[1] > 10 ? BAD : world.rules.get(x[0])[x[1]];
            case "keeps": remember(); world.kept = copyRules(world.rules, false); return world.rules.size();
            case "takes": remember(); world.rules = copyRules(world.kept, false); return world.rules.size();
            case "decides": return noCase(x[0], x[1], x[2], x[3]) ? BAD : decider(world.rules, x[0], x[1], x[2], x[3]);
            case "cases": return noRule(x[0]) || x[1] < 0 || x[1] > 1 ? BAD : cases(x[0], x[1]);
            case "idle": return noRule(x[0]) || x[1] < 0 || x[1] > 1 ? BAD : idle(x[0], x[1]);
            case "contradicts": return noRule(x[0]) || noRule(x[1]) || x[0] == x[1] ? BAD : contradicts(x[0], x[1]);
            case "change": return x[0] < 0 || x[0] > 6 ? BAD : change(x[0]);
            case "all": return x[0] < 0 || x[0] > 2 ? BAD : all(x[0]);
            case "letter": return letter(x[0], x[1], x[2], x[3], x[4]);
            case "announces": return announces(x[0], x[1], x[2]);
            case "ticks": return ticks(x[0]);
            case "span": return span(x[0], x[1]);
            case "cuts": return cuts();
            case "flow": return flow(x[0], x[1]);
            case "count": return count(x[0]);
            case "type": return type(x[0]);
            case "clear": return clear();
            case "reads": return reads();
            case "back": return back();
            case "told": return told(x[0]);
            case "digest": return digest();
            default: throw new IllegalArgumentException(name);
        }
    }

    private boolean noRule(int r) {
        return r < 0 || r >= world.rules.size();
    }

    private static boolean noCase(int source, int goal, int port, int sort) {
        return source < 0 || source > 31 || goal < 0 || goal > 31 || port < 0 || port > 15 || sort < 0 || sort > 1;
    }

    private int zone(int z, int a, int b) {
        if (z < 0 || z > 5 || a < 0 || a > b || b > 31) {
            return BAD;
        }
        remember();
        int n = 0;
        for (int k = a; k <= b; k++) {
            n += world.zones[k] == z ? 0 : 1;
            world.zones[k] = z;
        }
        return n;
    }

    private int rule(int at, int action) {
        if (at < 0 || at > world.rules.size() || action < 0 || action > 2) {
            return BAD;
        }
        if (world.rules.size() == 12) {
            return FULL;
        }
        remember();
        world.rules.add(at, anyRule(action));
        return world.rules.size();
    }

    private int sets(int r, int what, int v) {
        if (noRule(r) || what < 0 || what > 9 || v < 0) {
            return BAD;
        }
        int most = what < 2 ? 6 : what < 6 ? 31 : what < 8 ? 15 : 2;
        if (v > most) {
            return BAD;
        }
        remember();
        int old = world.rules.get(r)[what];
        world.rules.get(r)[what] = v;
        return old;
    }

    private int drops(int r) {
        if (noRule(r)) {
            return BAD;
        }
        remember();
        world.rules.remove(r);
        return world.rules.size();
    }

    private int moves(int r, int to) {
        if (noRule(r) || noRule(to)) {
            return BAD;
        }
        remember();
        world.rules.add(to, world.rules.remove(r));
        return r;
    }

    private boolean fits(int[] rule, int source, int goal, int port, int sort) {
        return (rule[0] == 6 || rule[0] == world.zones[source]) && (rule[1] == 6 || rule[1] == world.zones[goal])
                && rule[2] <= source && source <= rule[3] && rule[4] <= goal && goal <= rule[5]
                && rule[6] <= port && port <= rule[7] && (rule[8] == 2 || rule[8] == sort);
    }

    private int decider(List<int[]> rules, int source, int goal, int port, int sort) {
        for (int r = 0; r < rules.size(); r++) {
            if (fits(rules.get(r), source, goal, port, sort)) {
                return r;
            }
        }
        return NONE;
    }

    private int action(List<int[]> rules, int number) {
        int r = decider(rules, number >> 10, number >> 5 & 31, number >> 1 & 15, number & 1);
        return r == NONE ? 0 : rules.get(r)[9];
    }

    private boolean fits(int r, int number) {
        return fits(world.rules.get(r), number >> 10, number >> 5 & 31, number >> 1 & 15, number & 1);
    }

    private int cases(int r, int what) {
        int n = 0;
        for (int k = 0; k < 32768; k++) {
            boolean counts = what == 1 ? fits(r, k) : decider(world.rules, k >> 10, k >> 5 & 31, k >> 1 & 15, k & 1) == r;
            n += counts ? 1 : 0;
        }
        return n;
    }

    private int idle(int r, int what) {
        if (what == 0) {
            return cases(r, 0) == 0 ? 1 : 0;
        }
        List<int[]> without = new ArrayList<>(world.rules);
        without.remove(r);
        for (int k = 0; k < 32768; k++) {
            if (action(without, k) != action(world.rules, k)) {
                return 0;
            }
        }
        return 1;
    }

    private int contradicts(int q, int r) {
        if (world.rules.get(q)[9] == world.rules.get(r)[9]) {
            return 0;
        }
        int n = 0;
        for (int k = 0; k < 32768; k++) {
            n += fits(q, k) && fits(r, k) ? 1 : 0;
        }
        return n;
    }

    private int change(int what) {
        int n = 0;
        int first = NONE;
        for (int k = 0; k < 32768; k++) {
            if (action(world.rules, k) != action(world.kept, k)) {
                first = n == 0 ? k : first;
                n++;
            }
        }
        if (what == 0 || first == NONE) {
            return what == 0 ? n : NONE;
        }
        int[] told = {0, first >> 10, first >> 5 & 31, first >> 1 & 15, first & 1, action(world.kept, first), action(world.rules, first)};
        return told[what];
    }

    private int all(int a) {
        int n = 0;
        for (int k = 0; k < 32768; k++) {
            n += action(world.rules, k) == a ? 1 : 0;
        }
        return n;
    }

    private int letter(int source, int goal, int port, int sort, int sign) {
        if (noCase(source, goal, port, sort) || sign < 0 || sign > 4) {
            return BAD;
        }
        remember();
        int answer = NONE;
        for (Entry e : world.flows) {
            if (e.is(source, goal, port, sort)) {
                answer = inFlow(e, true, sign);
                break;
            }
        }
        for (Entry e : world.flows) {
            if (answer == NONE && e.is(goal, source, port, sort)) {
                answer = inFlow(e, false, sign);
                break;
            }
        }
        if (answer == NONE) {
            answer = outside(source, goal, port, sort, sign);
        }
        world.counts[new int[] {5, 4, 6, 7, 8}[answer]]++;
        return answer;
    }

    private int inFlow(Entry e, boolean fromOpener, int sign) {
        if (sign == 4) {
            world.flows.remove(e);
            return 1;
        }
        String key = e.stage + (fromOpener ? "o" : "x") + sign;
        switch (key) {
            case "1x1": e.stage = 2; break;
            case "2o2": e.stage = 3; break;
            case "3o2": case "3x2": case "6o2": case "7o2": case "7x2": break;
            case "3o3": e.stage = 4; e.ended = 0; break;
            case "3x3": e.stage = 4; e.ended = 1; break;
            case "4o2": if (e.ended == 0) { return 3; } break;
            case "4x2": if (e.ended == 1) { return 3; } break;
            case "4o3": if (e.ended == 0) { return 3; } e.stage = 5; break;
            case "4x3": if (e.ended == 1) { return 3; } e.stage = 5; break;
            case "6x2": e.stage = 7; break;
            default: return 3;
        }
        e.due = world.time + world.spans[e.stage];
        return 1;
    }

    private int outside(int source, int goal, int port, int sort, int sign) {
        if (sort == 0 && sign != 0 || sort == 1 && sign != 2) {
            return 3;
        }
        int action = 0;
        Entry announced = null;
        for (Entry e : world.announcements) {
            announced = announced == null && e.is(source, goal, port, sort) ? e : announced;
        }
        if (announced != null) {
            world.announcements.remove(announced);
            action = 1;
        } else {
            int r = decider(world.rules, source, goal, port, sort);
            if (r != NONE) {
                world.rules.get(r)[10]++;
                action = world.rules.get(r)[9];
            }
        }
        if (action != 1) {
            return action;
        }
        if (world.flows.size() == 8) {
            Entry victim = null;
            for (Entry e : world.flows) {
                if ((e.stage == 1 || e.stage == 6) && (victim == null || e.due < victim.due)) {
                    victim = e;
                }
            }
            if (victim == null) {
                return 4;
            }
            world.flows.remove(victim);
        }
        Entry e = new Entry(source, goal, port, sort);
        e.stage = sort == 0 ? 1 : 6;
        e.due = world.time + world.spans[e.stage];
        world.flows.add(e);
        return 1;
    }

    private int announces(int i, int way, int port) {
        if (i < 0 || i >= world.flows.size() || way < 0 || way > 1 || port < 0 || port > 15) {
            return BAD;
        }
        Entry f = world.flows.get(i);
        if (f.stage != 3 && f.stage != 7) {
            return NO;
        }
        if (world.announcements.size() == 6) {
            return FULL;
        }
        remember();
        Entry e = way == 0 ? new Entry(f.goal, f.source, port, f.sort) : new Entry(f.source, f.goal, port, f.sort);
        e.due = world.time + 10;
        world.announcements.add(e);
        return world.announcements.size();
    }

    private int ticks(int n) {
        if (n < 1 || n > 100) {
            return BAD;
        }
        remember();
        world.time += n;
        int before = world.flows.size();
        world.flows.removeIf(e -> e.due <= world.time);
        world.announcements.removeIf(e -> e.due <= world.time);
        world.counts[9] += before - world.flows.size();
        return world.flows.size();
    }

    private int span(int g, int v) {
        if (g < 1 || g > 7 || v < 1 || v > 100) {
            return BAD;
        }
        remember();
        int old = world.spans[g];
        world.spans[g] = v;
        return old;
    }

    private int cuts() {
        remember();
        int before = world.flows.size();
        world.flows.removeIf(e -> action(world.rules, e.source << 10 | e.goal << 5 | e.port << 1 | e.sort) != 1);
        return before - world.flows.size();
    }

    private int flow(int i, int what) {
        if (i < 0 || what < 0 || what > 6) {
            return BAD;
        }
        if (i >= world.flows.size()) {
            return NONE;
        }
        Entry e = world.flows.get(i);
        return new int[] {e.source, e.goal, e.port, e.sort, e.stage, e.due, e.ended}[what];
    }

    private int count(int what) {
        if (what < 0 || what > 9) {
            return BAD;
        }
        int[] first = {world.rules.size(), world.flows.size(), world.announcements.size(), world.time};
        return what < 4 ? first[what] : world.counts[what];
    }

    private int type(int c) {
        if (c < 0 || c > 127) {
            return BAD;
        }
        if (text.length() == 120) {
            return FULL;
        }
        text.append((char) c);
        return text.length();
    }

    private int clear() {
        int n = text.length();
        text.setLength(0);
        return n;
    }

    private int reads() {
        List<int[]> rules = new ArrayList<>();
        int fault = new TextReader(text.toString()).read(rules);
        if (fault != NONE) {
            return -10 - fault;
        }
        remember();
        world.rules = rules;
        return rules.size();
    }

    private int back() {
        if (past.isEmpty()) {
            return NO;
        }
        world = past.removeLast();
        return past.size();
    }

    private int told(int what) {
        if (what < 0 || what > 4) {
            return BAD;
        }
        return what < 3 ? errors[what] : what == 3 ? text.length() : past.size();
    }

    private long digest() {
        List<Integer> all = new ArrayList<>();
        for (int what = 0; what < 5; what++) {
            all.add(told(what));
        }
        for (int what = 0; what < 10; what++) {
            all.add(count(what));
        }
        for (int z : world.zones) {
            all.add(z);
        }
        for (int[] rule : world.rules) {
            for (int v : rule) {
                all.add(v);
            }
        }
        for (int i = 0; i < world.flows.size(); i++) {
            for (int what = 0; what < 7; what++) {
                all.add(flow(i, what));
            }
        }
        for (int g = 1; g <= 7; g++) {
            all.add(world.spans[g]);
        }
        long h = 2573;
        for (int v : all) {
            h = 31 * h + v;
        }
        return h;
    }

    /** How many flows there are, for a test that chooses its next call by it. */
    int flows() {
        return world.flows.size();
    }

    /** The properties of a flow, for the same purpose. */
    int[] flowAt(int i) {
        Entry e = world.flows.get(i);
        return new int[] {e.source, e.goal, e.port, e.sort};
    }

    int rules() {
        return world.rules.size();
    }

    /** Reads a text token by token; a token is a run of letters, a run of digits, or one other byte. */
    private static final class TextReader {
        private final String text;
        private final List<Integer> starts = new ArrayList<>();
        private final List<String> tokens = new ArrayList<>();
        private int next = 0;

        TextReader(String text) {
            this.text = text;
            int i = 0;
            while (i < text.length()) {
                int end = i + 1;
                while (end < text.length() && kind(text.charAt(i)) > 1 && kind(text.charAt(end)) == kind(text.charAt(i))) {
                    end++;
                }
                if (kind(text.charAt(i)) != 0) {
                    starts.add(i);
                    tokens.add(text.substring(i, end));
                }
                i = end;
            }
        }

        private static int kind(char c) {
            return c == ' ' ? 0 : c >= 'a' && c <= 'z' ? 2 : c >= '0' && c <= '9' ? 3 : 1;
        }

        private String token() {
            return next < tokens.size() ? tokens.get(next) : "";
        }

        private int start() {
            return next < tokens.size() ? starts.get(next) : text.length();
        }

        int read(List<int[]> rules) {
            while (next < tokens.size()) {
                int action = List.of("deny", "allow", "reject").indexOf(token());
                if (rules.size() == 12 || action < 0) {
                    return start();
                }
                int[] rule = anyRule(action);
                next++;
                int fault = readParts(rule);
                if (fault != NONE) {
                    return fault;
                }
                rules.add(rule);
            }
            return NONE;
        }

        private int readParts(int[] rule) {
            List<String> left = new ArrayList<>(List.of("from", "to", "src", "dst", "port", "stream", "single"));
            while (!token().equals(";")) {
                String word = token();
                if (!left.contains(word)) {
                    return start();
                }
                left.remove(word);
                next++;
                int fault = NONE;
                switch (word) {
                    case "from": fault = number(rule, 0, 6); break;
                    case "to": fault = number(rule, 1, 6); break;
                    case "src": fault = numbers(rule, 2, 31); break;
                    case "dst": fault = numbers(rule, 4, 31); break;
                    case "port": fault = numbers(rule, 6, 15); break;
                    default:
                        rule[8] = word.equals("stream") ? 0 : 1;
                        left.remove("stream");
                        left.remove("single");
                }
                if (fault != NONE) {
                    return fault;
                }
            }
            next++;
            return NONE;
        }

        private int numbers(int[] rule, int what, int most) {
            int fault = number(rule, what, most);
            return fault != NONE ? fault : number(rule, what + 1, most);
        }

        private int number(int[] rule, int what, int most) {
            String token = token();
            if (!token.matches("[0-9]+")) {
                return start();
            }
            if (token.length() > 2) {
                return start() + 2;
            }
            rule[what] = Integer.parseInt(token);
            if (rule[what] > most) {
                return start();
            }
            next++;
            return NONE;
        }
    }
}
