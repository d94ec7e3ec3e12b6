import java.util.ArrayList;
import java.util.List;

/**
 * Looks whether two new objects with different pasts stand alike: both must answer all later
 * calls alike, but for the counts of errors. New objects are made for every way of looking,
 * so that none makes more than 512 calls.
 */
final class Twins {
    private static final int STATES = 5;

    private final String name;
    private final List<Call> due;
    private final List<Call> got;

    Twins(String name, List<Call> due, List<Call> got) {
        this.name = name;
        this.due = due;
        this.got = got;
    }

    void compare() {
        for (int steps = 0; steps <= STATES; steps++) {
            int n = steps;
            alike(n + " states back", s -> afterBack(s, n));
        }
        alike("the rest", Twins::rest);
        alike("the kept rules", Twins::keptRules);
        alike("announced letters", this::announcedLetters);
    }

    /** Compares how often an error was counted, which may be more often in the second one. */
    void compareCount(int what, int more) {
        Run.same(name + ", then told(" + what + ")", new Subject(got).makes("told", what), new Subject(due).makes("told", what) + more);
    }

    private interface Look {
        List<String> at(Subject subject);
    }

    private void alike(String part, Look look) {
        List<String> dueAnswers = look.at(new Subject(due));
        List<String> answers = look.at(new Subject(got));
        boolean same = answers.equals(dueAnswers);
        Run.same(name + " leaves all as it was (" + part + ")", same ? 1 : 0, 1);
        for (int k = 0; !same && k < Math.min(answers.size(), dueAnswers.size()); k++) {
            if (!answers.get(k).equals(dueAnswers.get(k))) {
                System.out.println("  " + answers.get(k) + ", due is " + dueAnswers.get(k));
            }
        }
    }

    private static void ask(List<String> answers, Subject s, String method, int... arguments) {
        Call call = Call.of(method, arguments);
        answers.add(call + " = " + s.makes(call));
    }

    private static List<String> afterBack(Subject s, int steps) {
        List<String> answers = new ArrayList<>();
        for (int k = 0; k < steps; k++) {
            ask(answers, s, "back");
        }
        ask(answers, s, "told", 3);
        ask(answers, s, "told", 4);
        for (int what = 0; what < 10; what++) {
            ask(answers, s, "count", what);
        }
        for (int a = 0; a < 32; a++) {
            ask(answers, s, "zoneOf", a);
        }
        askRules(answers, s);
        long flows = s.makes("count", 1);
        for (int i = 0; i < flows; i++) {
            for (int what = 0; what <= 6; what++) {
                ask(answers, s, "flow", i, what);
            }
        }
        for (int stage = 1; stage <= 7; stage++) {
            ask(answers, s, "span", stage, 1);
        }
        return answers;
    }

    private static void askRules(List<String> answers, Subject s) {
        long rules = s.makes("count", 0);
        for (int r = 0; r < rules; r++) {
            for (int what = 0; what <= 10; what++) {
                ask(answers, s, "of", r, what);
            }
        }
    }

    /** The text byte by byte cannot be asked for, but what it reads as can. */
    private static List<String> rest(Subject s) {
        List<String> answers = new ArrayList<>();
        for (int what = 0; what <= 6; what++) {
            ask(answers, s, "change", what);
        }
        ask(answers, s, "reads");
        askRules(answers, s);
        ask(answers, s, "type", 59);
        ask(answers, s, "reads");
        ask(answers, s, "clear");
        for (int k = 0; k < 11; k++) {
            ask(answers, s, "ticks", 1);
            ask(answers, s, "count", 2);
        }
        return answers;
    }

    private static List<String> keptRules(Subject s) {
        List<String> answers = new ArrayList<>();
        ask(answers, s, "takes");
        askRules(answers, s);
        return answers;
    }

    /** An announced letter shows itself where no rule would allow it. */
    private List<String> announcedLetters(Subject s) {
        List<String> answers = new ArrayList<>();
        ask(answers, s, "clear");
        ask(answers, s, "reads");
        for (Call call : due) {
            int i = call.isOf("announces") ? call.argument(0) : -1;
            if (i >= 0 && i < s.makes("count", 1)) {
                int opener = (int) s.makes("flow", i, 0);
                int other = (int) s.makes("flow", i, 1);
                for (int sort = 0; sort <= 1; sort++) {
                    ask(answers, s, "letter", opener, other, call.argument(2), sort, 2 * sort);
                    ask(answers, s, "letter", other, opener, call.argument(2), sort, 2 * sort);
                }
                ask(answers, s, "count", 2);
            }
        }
        return answers;
    }
}
