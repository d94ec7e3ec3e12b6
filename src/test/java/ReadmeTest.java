import java.lang.reflect.Method;
import java.lang.reflect.Modifier;
import java.nio.file.Files;
import java.nio.file.Path;
import java.util.ArrayList;
import java.util.List;
import java.util.Set;
import java.util.TreeSet;
import java.util.regex.Matcher;
import java.util.regex.Pattern;

/**
 * README.md: its Java is compiled and run, and the answer behind each call is compared. The
 * answer is a Java expression and ends at ':'; what follows is told to the reader alone.
 */
public final class ReadmeTest {
    private static final Pattern CALL = Pattern.compile("(\\s*)(guard\\.(\\w+)\\(.*\\));\\s*// ([^:]+)(:.*)?");
    private static final Set<String> WORDS = Set.of("NONE", "BAD", "NO", "FULL");

    private static final Set<String> namesCalled = new TreeSet<>();
    private static final Set<String> wordsAnswered = new TreeSet<>();
    private static int callsMade = 0;

    public static void main(String[] args) throws Exception {
        List<String> readme = Files.readAllLines(Path.of("README.md"));
        runsItsCalls(program(readme));
        callsEveryMethod();
        saysTheAnswers(readme);
        saysTheCommand(readme);
        Run.end();
    }

    /** The program calls this for each call that README.md shows. */
    public static void due(String call, long got, long due) {
        callsMade++;
        Run.same("README.md, " + call, got, due);
    }

    /** A class whose main method has the Java of README.md, each block in a scope of its own. */
    private static String program(List<String> readme) {
        List<String> code = new ArrayList<>(List.of("final class ReadmeCalls {"));
        for (String word : WORDS) {
            code.add("    static final int " + word + " = ZoneGuard." + word + ";");
        }
        code.add("    public static void main(String[] args) {");
        boolean inside = false;
        for (int k = 0; k < readme.size(); k++) {
            String line = readme.get(k);
            if (line.startsWith("```")) {
                inside = line.equals("```java");
                code.add(inside ? "{" : "}");
            } else if (inside) {
                code.add(statement(line, k + 1));
            }
        }
        code.add("    }");
        code.add("}");
        return String.join("\n", code);
    }

    private static String statement(String line, int number) {
        Matcher call = CALL.matcher(line);
        if (!call.matches()) {
            Run.same("README.md, line " + number + " gives no answer behind a call: " + line, line.contains("guard.") ? 1 : 0, 0);
            return line;
        }
        namesCalled.add(call.group(3));
        String answer = call.group(4).trim();
        if (WORDS.contains(answer)) {
            wordsAnswered.add(answer);
        }
        String shown = "line " + number + ": " + call.group(2).replace("\"", "'");
        return call.group(1) + "ReadmeTest.due(\"" + shown + "\", " + call.group(2) + ", " + answer + ");";
    }

    /** The program stands beside the other tests, because it uses their classes. */
    private static void runsItsCalls(String program) throws Exception {
        Path classes = Path.of(ReadmeTest.class.getProtectionDomain().getCodeSource().getLocation().toURI());
        Path source = classes.resolve("ReadmeCalls.java");
        Files.writeString(source, program);
        Process javac = new ProcessBuilder("javac", "-cp", classes.toString(), "-d", classes.toString(), source.toString()).inheritIO().start();
        int failed = javac.waitFor();
        Run.same("README.md, javac of its Java", failed, 0);
        if (failed == 0) {
            Method main = Class.forName("ReadmeCalls").getDeclaredMethod("main", String[].class);
            main.invoke(null, (Object) new String[0]);
        }
    }

    private static void callsEveryMethod() {
        for (Method m : ZoneGuard.class.getDeclaredMethods()) {
            if (Modifier.isPublic(m.getModifiers())) {
                Run.same("README.md calls " + m.getName(), namesCalled.contains(m.getName()) ? 1 : 0, 1);
            }
        }
        Run.same("README.md shows calls that were made", callsMade > namesCalled.size() ? 1 : 0, 1);
    }

    private static void saysTheAnswers(List<String> readme) throws ReflectiveOperationException {
        for (String word : WORDS) {
            int number = ZoneGuard.class.getField(word).getInt(null);
            Pattern row = Pattern.compile("\\| `" + word + "` +\\| " + number + " \\| \\S.*");
            Run.same("README.md says what " + word + " says", readme.stream().anyMatch(row.asMatchPredicate()) ? 1 : 0, 1);
            Run.same("README.md shows a call that answers " + word, wordsAnswered.contains(word) ? 1 : 0, 1);
        }
    }

    private static void saysTheCommand(List<String> readme) {
        Run.same("README.md says the one command", readme.contains("    .ci/run") ? 1 : 0, 1);
        Run.same(".ci/run can be run", Files.isExecutable(Path.of(".ci/run")) ? 1 : 0, 1);
    }
}
