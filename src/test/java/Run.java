import java.util.ArrayList;
import java.util.List;

/**
 * A run of calls on one new object, written as the document writes its examples:
 * "rule(0, 1) = 1; sets(0, 7, 3) = 15". Its name says which promise and sentence it holds.
 */
final class Run {
    private static final int BAD = -2, NO_ERROR = -1;
    private static int checked = 0;
    private static int wrong = 0;

    private final String name;
    private final List<Call> past = new ArrayList<>();
    private final Subject subject = new Subject();

    Run(String name) {
        this.name = name;
    }

    /** Makes the calls and compares every answer with the one behind its '='. */
    Run does(String calls) {
        for (String row : calls.split(";")) {
            String[] sides = row.split("=");
            check(sides[0].trim(), makes(Call.written(sides[0])), Long.parseLong(sides[1].trim()));
        }
        return this;
    }

    /** Makes the calls n times. */
    Run repeats(int n, String calls) {
        for (int k = 0; k < n; k++) {
            does(calls);
        }
        return this;
    }

    /** Makes each call on a new object with the past of this one, which itself stays as it is. */
    Run each(String calls) {
        for (String row : calls.split(";")) {
            String[] sides = row.split("=");
            Call call = Call.written(sides[0]);
            check(call.toString(), new Subject(past).makes(call), Long.parseLong(sides[1].trim()));
        }
        return this;
    }

    /** Makes calls that must fail with this error, and looks that only its count changes. */
    Run fails(int code, String calls) {
        for (String row : calls.split(";")) {
            Call call = Call.written(row);
            leaves(call.toString(), -2 - code, call);
            check(call.toString(), makes(call), code);
        }
        return this;
    }

    /** Makes calls that are no errors and must leave everything as it was. */
    Run asks(String calls) {
        for (String row : calls.split(";")) {
            leaves(row.trim(), NO_ERROR, Call.written(row.split("=")[0]));
            does(row);
        }
        return this;
    }

    /** Makes each call and takes it back, on new objects with the past of this one. */
    Run undoes(String calls) {
        each(calls);
        for (String row : calls.split(";")) {
            leaves(row.trim() + " and back()", NO_ERROR, Call.written(row.split("=")[0]), Call.of("back"));
        }
        return this;
    }

    /** Looks whether calls leave everything as it was, but for the count of one error. */
    private void leaves(String what, int counted, Call... calls) {
        List<Call> more = new ArrayList<>(past);
        more.addAll(List.of(calls));
        Twins twins = new Twins(name + ": " + what, List.copyOf(past), more);
        twins.compare();
        for (int error = 0; error < 3; error++) {
            twins.compareCount(error, error == counted ? 1 : 0);
        }
    }

    /** Makes a call with the numbers on both sides of a range in place of its '#': all of them must be BAD. */
    Run beyond(String call, int least, int greatest) {
        for (int v : new int[] {least - 1, greatest + 1, Integer.MIN_VALUE, Integer.MAX_VALUE}) {
            fails(BAD, call.replace("#", Integer.toString(v)));
        }
        return this;
    }

    /** Makes a text the only one. */
    Run types(String text) {
        makes(Call.of("clear"));
        int n = 0;
        for (char c : text.toCharArray()) {
            n++;
            check("type(" + (int) c + ")", makes(Call.of("type", c)), n);
        }
        return this;
    }

    /** Reads a text and compares the answer of reads(). */
    Run reads(String text, int due) {
        types(text);
        check("reads() of \"" + text + "\"", makes(Call.of("reads")), due);
        return this;
    }

    /** Compares the ten numbers and the hits of a rule. */
    Run hasRule(int r, int... due) {
        for (int what = 0; what < due.length; what++) {
            check("of(" + r + ", " + what + ")", makes(Call.of("of", r, what)), due[what]);
        }
        return this;
    }

    private long makes(Call call) {
        past.add(call);
        return subject.makes(call);
    }

    private void check(String what, long got, long due) {
        same(name + ": " + what, got, due);
    }

    static void same(String what, long got, long due) {
        checked++;
        if (got != due) {
            wrong++;
            System.out.println(what + " answered " + got + ", due is " + due);
        }
    }

    /** Says how the test ended; exit code 1 if an answer was wrong. */
    static void end() {
        System.out.println(checked + " answers, " + wrong + " of them wrong");
        if (wrong != 0 || checked == 0) {
            System.exit(1);
        }
    }
}
