/**
 * A stateful packet filter with zones: an ordered list of rules decides about
 * letters that open a connection, and flows are tracked by their handshake.
 * The document (../shared/DOC.md) says what each public method does.
 */
public final class ZoneGuard {
    public static final int NONE = -1, BAD = -2, NO = -3, FULL = -4;

    private static final int ADDRESSES = 32, ZONES = 6, ANY_ZONE = 6;
    private static final int PORTS = 16, SORTS = 2, BOTH_SORTS = 2, SERVICES = PORTS * SORTS;
    private static final int DENY = 0, ALLOW = 1, REJECT = 2;

    /** The columns of a rule; what 'sets' and 'of' call 'what'. */
    private static final int SOURCE_ZONE = 0, GOAL_ZONE = 1, LEAST_SOURCE = 2, GREATEST_SOURCE = 3,
            LEAST_GOAL = 4, GREATEST_GOAL = 5, LEAST_PORT = 6, GREATEST_PORT = 7,
            RULE_SORT = 8, ACTION = 9, HITS = 10, RULE_WIDTH = 11;
    private static final int[] ANY_RULE = {6, 6, 0, 31, 0, 31, 0, 15, 2, 0, 0};
    private static final int[] GREATEST_NUMBER = {6, 6, 31, 31, 31, 31, 15, 15, 2, 2};
    private static final int RULES = 12;

    /** The columns of a case, with which the rows of flows and announcements begin. */
    private static final int SOURCE = 0, GOAL = 1, PORT = 2, SORT = 3;
    private static final int STAGE = 4, DUE = 5, ENDED = 6, FLOW_WIDTH = 7;
    private static final int UNTIL = 4, ANNOUNCEMENT_WIDTH = 5;
    private static final int FLOWS = 8, ANNOUNCEMENTS = 6, ANNOUNCEMENT_SPAN = 10;
    private static final int STAGES = 7, GREATEST_SPAN = 100, GREATEST_TICKS = 100;
    private static final int[] FIRST_SPANS = {5, 5, 40, 10, 3, 8, 20};

    private static final int STREAM_SORT = 0, SINGLE_SORT = 1;
    private static final int OPEN = 0, ANSWER = 1, GO = 2, END = 3, BREAK = 4;
    private static final int OPENER = 0, OTHER = 1;

    /** What becomes of a letter. The first three equal the actions, so that an action is an answer. */
    private static final int DENIED = DENY, PASSED = ALLOW, REJECTED = REJECT, STRAY = 3, NO_ROOM = 4;

    /** Where the tallies of letters and of due flows stand among the numbers of 'count'. */
    private static final int FIRST_TALLY = 4, TALLIES = 6;
    private static final int TALLY_PASSED = 0, TALLY_DENIED = 1, TALLY_REJECTED = 2, TALLY_STRAY = 3,
            TALLY_NO_ROOM = 4, TALLY_DUE = 5;

    private static final int TEXT_LIMIT = 120, GREATEST_BYTE = 127, FIRST_FAULT = -10;
    private static final int STATES = 5;

    private final State state = new State();
    private final History history = new History();
    private final Text text = new Text();
    private final Picture picture = new Picture();
    private final Picture otherPicture = new Picture();
    private int badResults;
    private int noResults;
    private int fullResults;

    public ZoneGuard() {
    }

    // ---- zones and rules

    public int zone(int z, int a, int b) {
        if (!within(z, 0, ZONES - 1) || !within(b, 0, ADDRESSES - 1) || !within(a, 0, b)) {
            return fails(BAD);
        }
        history.remember(state);
        int moved = 0;
        for (int address = a; address <= b; address++) {
            if (state.zones[address] != z) {
                state.zones[address] = z;
                moved++;
            }
        }
        return moved;
    }

    public int zoneOf(int a) {
        if (!within(a, 0, ADDRESSES - 1)) {
            return fails(BAD);
        }
        return state.zones[a];
    }

    public int rule(int at, int action) {
        if (!within(at, 0, state.rules.size()) || !within(action, DENY, REJECT)) {
            return fails(BAD);
        }
        if (state.rules.isFull()) {
            return fails(FULL);
        }
        history.remember(state);
        insertAnyRule(state.rules, at, action);
        return state.rules.size();
    }

    public int sets(int r, int what, int v) {
        if (!isRule(r) || !within(what, 0, ACTION) || !within(v, 0, greatestNumber(what))) {
            return fails(BAD);
        }
        history.remember(state);
        int before = state.rules.get(r, what);
        state.rules.put(r, what, v);
        return before;
    }

    public int drops(int r) {
        if (!isRule(r)) {
            return fails(BAD);
        }
        history.remember(state);
        state.rules.remove(r);
        return state.rules.size();
    }

    public int moves(int r, int to) {
        if (!isRule(r) || !isRule(to)) {
            return fails(BAD);
        }
        history.remember(state);
        for (int k = r; k < to; k++) {
            state.rules.exchange(k, k + 1);
        }
        for (int k = r; k > to; k--) {
            state.rules.exchange(k, k - 1);
        }
        return r;
    }

    public int of(int r, int what) {
        if (!isRule(r) || !within(what, 0, HITS)) {
            return fails(BAD);
        }
        return state.rules.get(r, what);
    }

    public int keeps() {
        history.remember(state);
        copyRules(state.rules, state.kept);
        return state.rules.size();
    }

    public int takes() {
        history.remember(state);
        copyRules(state.kept, state.rules);
        return state.rules.size();
    }

    // ---- what rules do

    public int decides(int source, int goal, int port, int sort) {
        if (!isCase(source, goal, port, sort)) {
            return fails(BAD);
        }
        return state.ruleFor(state.rules, source, goal, port, sort);
    }

    public int cases(int r, int what) {
        if (!isRule(r) || !within(what, 0, 1)) {
            return fails(BAD);
        }
        picture.draw(state.rules, state.zones);
        return what == 0 ? picture.casesDecided(r) : picture.casesFitting(r, r);
    }

    public int idle(int r, int what) {
        if (!isRule(r) || !within(what, 0, 1)) {
            return fails(BAD);
        }
        picture.draw(state.rules, state.zones);
        if (what == 0) {
            return picture.casesDecided(r) == 0 ? 1 : 0;
        }
        otherPicture.draw(state.rules, state.zones);
        otherPicture.silence(r);
        return picture.firstDifference(otherPicture) == NONE ? 1 : 0;
    }

    public int contradicts(int q, int r) {
        if (!isRule(q) || !isRule(r) || q == r) {
            return fails(BAD);
        }
        if (state.rules.get(q, ACTION) == state.rules.get(r, ACTION)) {
            return 0;
        }
        picture.draw(state.rules, state.zones);
        return picture.casesFitting(q, r);
    }

    public int change(int what) {
        if (!within(what, 0, 6)) {
            return fails(BAD);
        }
        picture.draw(state.rules, state.zones);
        otherPicture.draw(state.kept, state.zones);
        if (what == 0) {
            return picture.differences(otherPicture);
        }
        int first = picture.firstDifference(otherPicture);
        return first == NONE ? NONE : tellChange(first, what);
    }

    public int all(int a) {
        if (!within(a, DENY, REJECT)) {
            return fails(BAD);
        }
        picture.draw(state.rules, state.zones);
        return picture.casesWithAction(a);
    }

    // ---- letters and flows

    public int letter(int source, int goal, int port, int sort, int sign) {
        if (!isCase(source, goal, port, sort) || !within(sign, OPEN, BREAK)) {
            return fails(BAD);
        }
        history.remember(state);
        int answer = handleLetter(source, goal, port, sort, sign);
        state.raise(tallyOf(answer), 1);
        return answer;
    }

    public int announces(int i, int way, int port) {
        if (!isFlow(i) || !within(way, 0, 1) || !within(port, 0, PORTS - 1)) {
            return fails(BAD);
        }
        int stage = state.flows.get(i, STAGE);
        if (stage != 3 && stage != 7) {
            return fails(NO);
        }
        if (state.announcements.isFull()) {
            return fails(FULL);
        }
        history.remember(state);
        int opener = state.flows.get(i, SOURCE);
        int other = state.flows.get(i, GOAL);
        int sort = state.flows.get(i, SORT);
        if (way == 0) {
            appendCase(state.announcements, other, opener, port, sort);
        } else {
            appendCase(state.announcements, opener, other, port, sort);
        }
        state.announcements.put(state.announcements.size() - 1, UNTIL, state.time + ANNOUNCEMENT_SPAN);
        return state.announcements.size();
    }

    public int ticks(int n) {
        if (!within(n, 1, GREATEST_TICKS)) {
            return fails(BAD);
        }
        history.remember(state);
        state.time += n;
        state.raise(TALLY_DUE, removeOver(state.flows, DUE));
        removeOver(state.announcements, UNTIL);
        return state.flows.size();
    }

    public int span(int g, int v) {
        if (!within(g, 1, STAGES) || !within(v, 1, GREATEST_SPAN)) {
            return fails(BAD);
        }
        history.remember(state);
        int before = state.spans[g - 1];
        state.spans[g - 1] = v;
        return before;
    }

    public int cuts() {
        history.remember(state);
        int before = state.flows.size();
        for (int i = before - 1; i >= 0; i--) {
            if (actionOfFlow(i) != ALLOW) {
                state.flows.remove(i);
            }
        }
        return before - state.flows.size();
    }

    public int flow(int i, int what) {
        if (i < 0 || !within(what, 0, ENDED)) {
            return fails(BAD);
        }
        return isFlow(i) ? state.flows.get(i, what) : NONE;
    }

    public int count(int what) {
        if (!within(what, 0, FIRST_TALLY + TALLIES - 1)) {
            return fails(BAD);
        }
        switch (what) {
            case 0: return state.rules.size();
            case 1: return state.flows.size();
            case 2: return state.announcements.size();
            case 3: return state.time;
            default: return state.tallies[what - FIRST_TALLY];
        }
    }

    // ---- texts

    public int type(int c) {
        if (!within(c, 0, GREATEST_BYTE)) {
            return fails(BAD);
        }
        if (text.length() >= TEXT_LIMIT) {
            return fails(FULL);
        }
        text.append(c);
        return text.length();
    }

    public int clear() {
        int before = text.length();
        text.empty();
        return before;
    }

    public int reads() {
        int fault = text.findRules();
        if (fault != NONE) {
            return FIRST_FAULT - fault;
        }
        history.remember(state);
        copyRules(text.found, state.rules);
        return state.rules.size();
    }

    // ---- states

    public int back() {
        if (history.size() == 0) {
            return fails(NO);
        }
        history.restore(state);
        return history.size();
    }

    public int told(int what) {
        switch (what) {
            case 0: return badResults;
            case 1: return noResults;
            case 2: return fullResults;
            case 3: return text.length();
            case 4: return history.size();
            default: return fails(BAD);
        }
    }

    public long digest() {
        long h = 2573;
        for (int what = 0; what <= 4; what++) {
            h = 31 * h + told(what);
        }
        for (int what = 0; what < FIRST_TALLY + TALLIES; what++) {
            h = 31 * h + count(what);
        }
        for (int a = 0; a < ADDRESSES; a++) {
            h = 31 * h + state.zones[a];
        }
        h = state.rules.mixInto(h);
        h = state.flows.mixInto(h);
        for (int k = 0; k < STAGES; k++) {
            h = 31 * h + state.spans[k];
        }
        return h;
    }

    // ---- arguments and errors

    private static boolean within(int v, int least, int greatest) {
        return v >= least && v <= greatest;
    }

    private static boolean isCase(int source, int goal, int port, int sort) {
        return within(source, 0, ADDRESSES - 1) && within(goal, 0, ADDRESSES - 1)
                && within(port, 0, PORTS - 1) && within(sort, STREAM_SORT, SINGLE_SORT);
    }

    private boolean isRule(int r) {
        return within(r, 0, state.rules.size() - 1);
    }

    private boolean isFlow(int i) {
        return within(i, 0, state.flows.size() - 1);
    }

    /** The greatest value of a rule's number; NONE if there is no such number, so that no value is in range. */
    private static int greatestNumber(int what) {
        return within(what, 0, GREATEST_NUMBER.length - 1) ? GREATEST_NUMBER[what] : NONE;
    }

    /** Every error goes through here, because 'told' counts them all. */
    private int fails(int code) {
        if (code == BAD) {
            badResults++;
        } else if (code == NO) {
            noResults++;
        } else {
            fullResults++;
        }
        return code;
    }

    // ---- rules

    private static void insertAnyRule(Table rules, int at, int action) {
        rules.insert(at);
        for (int column = 0; column < ANY_RULE.length; column++) {
            rules.put(at, column, ANY_RULE[column]);
        }
        rules.put(at, ACTION, action);
    }

    /** Hits never go along when rules are kept, taken or read. */
    private static void copyRules(Table from, Table to) {
        to.copyFrom(from);
        for (int r = 0; r < to.size(); r++) {
            to.put(r, HITS, 0);
        }
    }

    /** Whether a rule fits one end of a case: end 0 is the source, end 1 the goal. */
    private static boolean fitsEnd(Table rules, int r, int end, int address, int zone) {
        int wanted = rules.get(r, SOURCE_ZONE + end);
        int least = rules.get(r, LEAST_SOURCE + 2 * end);
        int greatest = rules.get(r, GREATEST_SOURCE + 2 * end);
        return (wanted == ANY_ZONE || wanted == zone) && within(address, least, greatest);
    }

    private static boolean fitsService(Table rules, int r, int port, int sort) {
        int wanted = rules.get(r, RULE_SORT);
        return (wanted == BOTH_SORTS || wanted == sort)
                && within(port, rules.get(r, LEAST_PORT), rules.get(r, GREATEST_PORT));
    }

    /** A property of a changed case, which is given by its number in the order of cases. */
    private int tellChange(int number, int what) {
        int source = number / (SERVICES * ADDRESSES);
        int goal = number / SERVICES % ADDRESSES;
        int port = number / SORTS % PORTS;
        int sort = number % SORTS;
        switch (what) {
            case 1: return source;
            case 2: return goal;
            case 3: return port;
            case 4: return sort;
            case 5: return state.actionFor(state.kept, source, goal, port, sort);
            default: return state.actionFor(state.rules, source, goal, port, sort);
        }
    }

    // ---- letters and flows

    private int handleLetter(int source, int goal, int port, int sort, int sign) {
        int own = state.flows.rowOfCase(source, goal, port, sort);
        if (own != NONE) {
            return continueFlow(own, OPENER, sign);
        }
        int opposite = state.flows.rowOfCase(goal, source, port, sort);
        if (opposite != NONE) {
            return continueFlow(opposite, OTHER, sign);
        }
        if (sign != (sort == STREAM_SORT ? OPEN : GO)) {
            return STRAY;
        }
        int answer = askForFlow(source, goal, port, sort);
        return answer == PASSED ? openFlow(source, goal, port, sort) : answer;
    }

    private int continueFlow(int i, int side, int sign) {
        if (sign == BREAK) {
            state.flows.remove(i);
            return PASSED;
        }
        int stage = state.flows.get(i, STAGE);
        int next = nextStage(stage, side, state.flows.get(i, ENDED), sign);
        if (next == NONE) {
            return STRAY;
        }
        if (stage == 3 && next == 4) {
            state.flows.put(i, ENDED, side);
        }
        state.enterStage(i, next);
        return PASSED;
    }

    /** The stage after a letter that is no break; NONE if the letter is stray. */
    private static int nextStage(int stage, int side, int ended, int sign) {
        switch (stage) {
            case 1:
                return side == OTHER && sign == ANSWER ? 2 : NONE;
            case 2:
                return side == OPENER && sign == GO ? 3 : NONE;
            case 3:
                return sign == GO ? 3 : sign == END ? 4 : NONE;
            case 4:
                if (side == ended) {
                    return NONE;
                }
                return sign == GO ? 4 : sign == END ? 5 : NONE;
            case 6:
                if (sign != GO) {
                    return NONE;
                }
                return side == OTHER ? 7 : 6;
            case 7:
                return sign == GO ? 7 : NONE;
            default:
                return NONE;
        }
    }

    /** Uses up an announcement or asks the rules; the answer is an action. */
    private int askForFlow(int source, int goal, int port, int sort) {
        int announced = state.announcements.rowOfCase(source, goal, port, sort);
        if (announced != NONE) {
            state.announcements.remove(announced);
            return ALLOW;
        }
        int r = state.ruleFor(state.rules, source, goal, port, sort);
        if (r == NONE) {
            return DENY;
        }
        state.rules.put(r, HITS, state.rules.get(r, HITS) + 1);
        return state.rules.get(r, ACTION);
    }

    private int openFlow(int source, int goal, int port, int sort) {
        if (state.flows.isFull() && !makeRoom()) {
            return NO_ROOM;
        }
        appendCase(state.flows, source, goal, port, sort);
        int i = state.flows.size() - 1;
        state.flows.put(i, ENDED, NONE);
        state.enterStage(i, sort == STREAM_SORT ? 1 : 6);
        return PASSED;
    }

    /** Removes the flow that may give way first; answers whether there was one. */
    private boolean makeRoom() {
        int chosen = NONE;
        for (int i = 0; i < state.flows.size(); i++) {
            int stage = state.flows.get(i, STAGE);
            if (stage != 1 && stage != 6) {
                continue;
            }
            if (chosen == NONE || state.flows.get(i, DUE) < state.flows.get(chosen, DUE)) {
                chosen = i;
            }
        }
        if (chosen == NONE) {
            return false;
        }
        state.flows.remove(chosen);
        return true;
    }

    private static void appendCase(Table table, int source, int goal, int port, int sort) {
        int row = table.size();
        table.insert(row);
        table.put(row, SOURCE, source);
        table.put(row, GOAL, goal);
        table.put(row, PORT, port);
        table.put(row, SORT, sort);
    }

    private int actionOfFlow(int i) {
        return state.actionFor(state.rules, state.flows.get(i, SOURCE), state.flows.get(i, GOAL),
                state.flows.get(i, PORT), state.flows.get(i, SORT));
    }

    /** Removes the rows whose time in this column has come; answers how many. */
    private int removeOver(Table table, int column) {
        int before = table.size();
        for (int row = before - 1; row >= 0; row--) {
            if (table.get(row, column) <= state.time) {
                table.remove(row);
            }
        }
        return before - table.size();
    }

    private static int tallyOf(int answer) {
        switch (answer) {
            case PASSED: return TALLY_PASSED;
            case DENIED: return TALLY_DENIED;
            case REJECTED: return TALLY_REJECTED;
            case STRAY: return TALLY_STRAY;
            default: return TALLY_NO_ROOM;
        }
    }

    /** Rows of numbers in a sequence, at most a fixed number of them. */
    private static final class Table {
        private final int limit;
        private final int width;
        private final int[] cells;
        private int size;

        Table(int limit, int width) {
            this.limit = Math.max(0, limit);
            this.width = Math.max(0, width);
            cells = new int[this.limit * this.width];
        }

        int size() {
            return size;
        }

        boolean isFull() {
            return size >= limit;
        }

        void empty() {
            size = 0;
        }

        private boolean has(int row, int column) {
            return row >= 0 && row < size && column >= 0 && column < width;
        }

        int get(int row, int column) {
            return has(row, column) ? cells[row * width + column] : 0;
        }

        void put(int row, int column, int v) {
            if (has(row, column)) {
                cells[row * width + column] = v;
            }
        }

        /** Makes room for a row; its numbers are put by the caller. */
        void insert(int row) {
            if (isFull() || row < 0 || row > size) {
                return;
            }
            System.arraycopy(cells, row * width, cells, (row + 1) * width, (size - row) * width);
            size++;
        }

        void remove(int row) {
            if (row < 0 || row >= size) {
                return;
            }
            size--;
            System.arraycopy(cells, (row + 1) * width, cells, row * width, (size - row) * width);
        }

        void exchange(int row, int other) {
            for (int column = 0; column < width; column++) {
                int v = get(row, column);
                put(row, column, get(other, column));
                put(other, column, v);
            }
        }

        /** The first row that begins with this case; NONE if there is none. */
        int rowOfCase(int source, int goal, int port, int sort) {
            for (int row = 0; row < size; row++) {
                if (get(row, SOURCE) == source && get(row, GOAL) == goal
                        && get(row, PORT) == port && get(row, SORT) == sort) {
                    return row;
                }
            }
            return NONE;
        }

        void copyFrom(Table other) {
            if (other.cells.length != cells.length) {
                return;
            }
            System.arraycopy(other.cells, 0, cells, 0, cells.length);
            size = other.size;
        }

        long mixInto(long hash) {
            long h = hash;
            for (int row = 0; row < size; row++) {
                for (int column = 0; column < width; column++) {
                    h = 31 * h + get(row, column);
                }
            }
            return h;
        }
    }

    /** All that 'back' makes as it was. */
    private static final class State {
        private final int[] zones = new int[ADDRESSES];
        private final Table rules = new Table(RULES, RULE_WIDTH);
        private final Table kept = new Table(RULES, RULE_WIDTH);
        private final Table flows = new Table(FLOWS, FLOW_WIDTH);
        private final Table announcements = new Table(ANNOUNCEMENTS, ANNOUNCEMENT_WIDTH);
        private final int[] spans = new int[STAGES];
        private final int[] tallies = new int[TALLIES];
        private int time;

        State() {
            System.arraycopy(FIRST_SPANS, 0, spans, 0, STAGES);
        }

        void copyFrom(State other) {
            System.arraycopy(other.zones, 0, zones, 0, ADDRESSES);
            rules.copyFrom(other.rules);
            kept.copyFrom(other.kept);
            flows.copyFrom(other.flows);
            announcements.copyFrom(other.announcements);
            System.arraycopy(other.spans, 0, spans, 0, STAGES);
            System.arraycopy(other.tallies, 0, tallies, 0, TALLIES);
            time = other.time;
        }

        /** The first rule of a list that fits a case; NONE if none does. */
        int ruleFor(Table list, int source, int goal, int port, int sort) {
            int sourceZone = zoneAt(source);
            int goalZone = zoneAt(goal);
            for (int r = 0; r < list.size(); r++) {
                if (fitsEnd(list, r, 0, source, sourceZone) && fitsEnd(list, r, 1, goal, goalZone)
                        && fitsService(list, r, port, sort)) {
                    return r;
                }
            }
            return NONE;
        }

        int actionFor(Table list, int source, int goal, int port, int sort) {
            int r = ruleFor(list, source, goal, port, sort);
            return r == NONE ? DENY : list.get(r, ACTION);
        }

        private int zoneAt(int address) {
            return within(address, 0, ADDRESSES - 1) ? zones[address] : NONE;
        }

        /** Puts a flow into a stage, also the one that it is in, and gives it the due time of that stage. */
        void enterStage(int i, int stage) {
            if (!within(stage, 1, STAGES)) {
                return;
            }
            flows.put(i, STAGE, stage);
            flows.put(i, DUE, time + spans[stage - 1]);
        }

        void raise(int tally, int n) {
            if (within(tally, 0, TALLIES - 1)) {
                tallies[tally] += n;
            }
        }
    }

    /** The remembered states, in a ring: the newest takes the place of the oldest. */
    private static final class History {
        private final State[] ring = new State[STATES];
        private int size;
        private int next;

        History() {
            for (int k = 0; k < STATES; k++) {
                ring[k] = new State();
            }
        }

        int size() {
            return size;
        }

        void remember(State state) {
            State place = at(next);
            if (place == null) {
                return;
            }
            place.copyFrom(state);
            next = next == STATES - 1 ? 0 : next + 1;
            size = Math.min(size + 1, STATES);
        }

        void restore(State state) {
            int latest = next == 0 ? STATES - 1 : next - 1;
            State place = at(latest);
            if (size == 0 || place == null) {
                return;
            }
            state.copyFrom(place);
            next = latest;
            size--;
        }

        private State at(int k) {
            return within(k, 0, STATES - 1) ? ring[k] : null;
        }
    }

    /**
     * What a list of rules does to all cases. A service is a port with a sort, a bit of an
     * int; so is a rule in a set of rules. A pair of addresses matters only by the set of
     * rules that fit it, so that a question about all cases takes few steps.
     */
    private static final class Picture {
        private final int[] bySource = new int[ADDRESSES];
        private final int[] byGoal = new int[ADDRESSES];
        private final int[] services = new int[RULES];
        private final int[] actions = new int[RULES];
        private int size;
        private int seen;
        private int allowed;
        private int rejected;

        void draw(Table rules, int[] zones) {
            size = Math.min(rules.size(), RULES);
            for (int a = 0; a < ADDRESSES && a < zones.length; a++) {
                bySource[a] = fittingEnd(rules, 0, a, zones[a]);
                byGoal[a] = fittingEnd(rules, 1, a, zones[a]);
            }
            for (int r = 0; r < size; r++) {
                services[r] = servicesOf(rules, r);
                actions[r] = rules.get(r, ACTION);
            }
            forget();
        }

        /** Makes a rule fit nothing, as if it were not there. */
        void silence(int r) {
            if (within(r, 0, RULES - 1)) {
                services[r] = 0;
            }
            forget();
        }

        /** The set of no rules is the one whose actions are known without looking. */
        private void forget() {
            seen = 0;
            allowed = 0;
            rejected = 0;
        }

        private int fittingEnd(Table rules, int end, int address, int zone) {
            int set = 0;
            for (int r = 0; r < size; r++) {
                if (fitsEnd(rules, r, end, address, zone)) {
                    set |= 1 << r;
                }
            }
            return set;
        }

        private static int servicesOf(Table rules, int r) {
            int set = 0;
            for (int service = 0; service < SERVICES; service++) {
                if (fitsService(rules, r, service / SORTS, service % SORTS)) {
                    set |= 1 << service;
                }
            }
            return set;
        }

        private static boolean holds(int set, int bit) {
            return (set >>> bit & 1) == 1;
        }

        /** The number of cases that fit two rules, or one rule given twice. */
        int casesFitting(int q, int r) {
            if (!within(q, 0, size - 1) || !within(r, 0, size - 1)) {
                return 0;
            }
            return addressesOf(bySource, q, r) * addressesOf(byGoal, q, r)
                    * Integer.bitCount(services[q] & services[r]);
        }

        private static int addressesOf(int[] sets, int q, int r) {
            int n = 0;
            for (int a = 0; a < sets.length; a++) {
                if (holds(sets[a], q) && holds(sets[a], r)) {
                    n++;
                }
            }
            return n;
        }

        int casesDecided(int r) {
            int n = 0;
            for (int source = 0; source < ADDRESSES; source++) {
                for (int goal = 0; goal < ADDRESSES; goal++) {
                    n += Integer.bitCount(servicesDecided(r, bySource[source] & byGoal[goal]));
                }
            }
            return n;
        }

        /** The services that a rule decides where the rules of this set fit the addresses. */
        private int servicesDecided(int r, int set) {
            if (!within(r, 0, size - 1) || !holds(set, r)) {
                return 0;
            }
            int left = services[r];
            for (int q = 0; q < r; q++) {
                if (holds(set, q)) {
                    left &= ~services[q];
                }
            }
            return left;
        }

        int casesWithAction(int action) {
            int n = 0;
            for (int source = 0; source < ADDRESSES; source++) {
                for (int goal = 0; goal < ADDRESSES; goal++) {
                    look(bySource[source] & byGoal[goal]);
                    n += Integer.bitCount(servicesWithAction(action));
                }
            }
            return n;
        }

        private int servicesWithAction(int action) {
            switch (action) {
                case ALLOW: return allowed;
                case REJECT: return rejected;
                default: return ~(allowed | rejected);
            }
        }

        /** Works out what a set of rules allows and rejects; neighbouring pairs mostly have the same set. */
        private void look(int set) {
            if (set == seen) {
                return;
            }
            forget();
            seen = set;
            int left = -1;
            for (int r = 0; r < size; r++) {
                if (!holds(set, r)) {
                    continue;
                }
                if (actions[r] == ALLOW) {
                    allowed |= left & services[r];
                } else if (actions[r] == REJECT) {
                    rejected |= left & services[r];
                }
                left &= ~services[r];
            }
        }

        /** The number of cases whose action is another one in the other picture. */
        int differences(Picture other) {
            int n = 0;
            for (int source = 0; source < ADDRESSES; source++) {
                for (int goal = 0; goal < ADDRESSES; goal++) {
                    n += Integer.bitCount(differingServices(other, source, goal));
                }
            }
            return n;
        }

        /** The number of the first such case in the order of cases; NONE if there is none. */
        int firstDifference(Picture other) {
            for (int source = 0; source < ADDRESSES; source++) {
                for (int goal = 0; goal < ADDRESSES; goal++) {
                    int set = differingServices(other, source, goal);
                    if (set != 0) {
                        return (source * ADDRESSES + goal) * SERVICES + leastOf(set);
                    }
                }
            }
            return NONE;
        }

        private int differingServices(Picture other, int source, int goal) {
            if (!within(source, 0, ADDRESSES - 1) || !within(goal, 0, ADDRESSES - 1)) {
                return 0;
            }
            look(bySource[source] & byGoal[goal]);
            other.look(other.bySource[source] & other.byGoal[goal]);
            return (allowed ^ other.allowed) | (rejected ^ other.rejected);
        }

        private static int leastOf(int set) {
            for (int service = 0; service < SERVICES; service++) {
                if (holds(set, service)) {
                    return service;
                }
            }
            return 0;
        }
    }

    /** The text, and the rules that were found in it. */
    private static final class Text {
        private static final int BLANK = 32, SEMICOLON = 59;
        private static final int REJECT_WORD = 2, FROM = 3, TO = 4, SRC = 5, DST = 6, PORT_WORD = 7,
                STREAM = 8, SINGLE = 9, WORDS = SINGLE + 1;
        /** The kinds of parts of a rule; stream and single are one kind. */
        private static final int PARTS = 6;

        private final int[] bytes = new int[TEXT_LIMIT];
        private final Table found = new Table(RULES, RULE_WIDTH);
        private int length;
        private int place;
        private int given;
        private int fault;

        int length() {
            return length;
        }

        void append(int c) {
            if (within(length, 0, TEXT_LIMIT - 1)) {
                bytes[length] = c;
                length++;
            }
        }

        void empty() {
            length = 0;
        }

        /** Reads the whole text; answers its fault, NONE if it has none. */
        int findRules() {
            found.empty();
            place = 0;
            fault = NONE;
            for (int n = 0; n <= RULES && fault == NONE; n++) {
                skipBlanks();
                if (place >= length) {
                    return NONE;
                }
                if (n == RULES) {
                    fault = place;
                } else {
                    readRule();
                }
            }
            return fault;
        }

        private void readRule() {
            int start = place;
            int action = readWord();
            if (!within(action, 0, REJECT_WORD)) {
                fault = start;
                return;
            }
            insertAnyRule(found, found.size(), action);
            given = 0;
            for (int n = 0; n <= PARTS && fault == NONE; n++) {
                skipBlanks();
                if (byteAt(place) == SEMICOLON) {
                    place++;
                    return;
                }
                readPart(found.size() - 1);
            }
        }

        private void readPart(int r) {
            int start = place;
            int word = readWord();
            int part = Math.min(word, STREAM) - FROM;
            if (part < 0 || (given >>> part & 1) == 1) {
                fault = start;
                return;
            }
            given |= 1 << part;
            switch (word) {
                case FROM: readNumbers(r, SOURCE_ZONE, SOURCE_ZONE); break;
                case TO: readNumbers(r, GOAL_ZONE, GOAL_ZONE); break;
                case SRC: readNumbers(r, LEAST_SOURCE, GREATEST_SOURCE); break;
                case DST: readNumbers(r, LEAST_GOAL, GREATEST_GOAL); break;
                case PORT_WORD: readNumbers(r, LEAST_PORT, GREATEST_PORT); break;
                default: found.put(r, RULE_SORT, word == STREAM ? STREAM_SORT : SINGLE_SORT);
            }
        }

        private void readNumbers(int r, int first, int last) {
            for (int column = first; column <= last && fault == NONE; column++) {
                skipBlanks();
                found.put(r, column, readNumber(greatestNumber(column)));
            }
        }

        /** A third digit is the fault before the range is looked at. */
        private int readNumber(int greatest) {
            int start = place;
            int value = 0;
            while (place < start + 2 && isDigit(byteAt(place))) {
                value = 10 * value + byteAt(place) - '0';
                place++;
            }
            if (place == start || isDigit(byteAt(place))) {
                fault = place;
            } else if (value > greatest) {
                fault = start;
            }
            return value;
        }

        /** Reads a known word and goes behind it; NONE, at the same place, if none stands here. */
        private int readWord() {
            for (int w = 0; w < WORDS; w++) {
                String name = nameOf(w);
                if (standsHere(name)) {
                    place += name.length();
                    return w;
                }
            }
            return NONE;
        }

        private boolean standsHere(String name) {
            for (int k = 0; k < name.length(); k++) {
                if (byteAt(place + k) != name.charAt(k)) {
                    return false;
                }
            }
            return !isLetter(byteAt(place + name.length()));
        }

        /** The words of the actions come first, so that such a word's number is its action. */
        private static String nameOf(int word) {
            switch (word) {
                case DENY: return "deny";
                case ALLOW: return "allow";
                case REJECT: return "reject";
                case FROM: return "from";
                case TO: return "to";
                case SRC: return "src";
                case DST: return "dst";
                case PORT_WORD: return "port";
                case STREAM: return "stream";
                default: return "single";
            }
        }

        private void skipBlanks() {
            while (place < length && byteAt(place) == BLANK) {
                place++;
            }
        }

        /** NONE behind the end, which is neither a letter nor a digit nor a sign. */
        private int byteAt(int i) {
            return i >= 0 && i < length && i < TEXT_LIMIT ? bytes[i] : NONE;
        }

        private static boolean isLetter(int c) {
            return c >= 'a' && c <= 'z';
        }

        private static boolean isDigit(int c) {
            return c >= '0' && c <= '9';
        }
    }
}
