import java.io.IOException;
import java.lang.management.ManagementFactory;
import java.lang.reflect.Constructor;
import java.lang.reflect.Field;
import java.lang.reflect.Method;
import java.lang.reflect.Modifier;
import java.nio.file.Files;
import java.nio.file.Path;
import java.util.Set;
import java.util.TreeSet;
import java.util.regex.Pattern;

/** The face of the class, the words that LANGUAGE.md rules out, and the room that calls take. */
public final class LanguageTest {
    private static final Set<String> FACE = Set.of("int zone 3", "int zoneOf 1", "int rule 2", "int sets 3", "int drops 1", "int moves 2",
            "int of 2", "int keeps 0", "int takes 0", "int decides 4", "int cases 2", "int idle 2", "int contradicts 2", "int change 1",
            "int all 1", "int letter 5", "int announces 3", "int ticks 1", "int span 2", "int cuts 0", "int flow 2", "int count 1",
            "int type 1", "int clear 0", "int reads 0", "int back 0", "int told 1", "long digest 0");
    private static final String[] RULED_OUT = {"throw", "try", "catch", "synchronized", "assert", "import", "new\\s+int\\s*\\[[^\\]]*\\]\\s*\\[\\s*\\]",
        "static\\s*\\{", "->", "::", "Object", "protected", "\\w+Exact", "double", "float", "Random", "nanoTime", "currentTimeMillis"};

    public static void main(String[] args) throws IOException {
        face();
        source();
        room();
        Run.end();
    }

    private static void same(String what, boolean holds) {
        Run.same(what, holds ? 1 : 0, 1);
    }

    private static void face() {
        Set<String> seen = new TreeSet<>();
        Set<String> names = new TreeSet<>();
        for (Method m : ZoneGuard.class.getDeclaredMethods()) {
            same(m + " is public or private", Modifier.isPublic(m.getModifiers()) || Modifier.isPrivate(m.getModifiers()));
            if (Modifier.isPublic(m.getModifiers())) {
                seen.add(m.getReturnType() + " " + m.getName() + " " + m.getParameterCount());
                names.add(m.getName());
            }
        }
        same("the public methods are those of the document: " + seen, seen.equals(FACE));
        for (Method m : ZoneGuard.class.getDeclaredMethods()) {
            same(m + " bears its own name", Modifier.isPublic(m.getModifiers()) || !names.contains(m.getName()));
        }
        Set<String> constants = new TreeSet<>();
        for (Field f : ZoneGuard.class.getDeclaredFields()) {
            if (!Modifier.isPrivate(f.getModifiers())) {
                constants.add(Modifier.toString(f.getModifiers()) + " " + f.getType() + " " + f.getName());
            }
        }
        same("the constants are those of the document: " + constants, constants.equals(Set.of("public static final int NONE",
                "public static final int BAD", "public static final int NO", "public static final int FULL")));
        Constructor<?>[] constructors = ZoneGuard.class.getDeclaredConstructors();
        same("one public constructor without arguments", constructors.length == 1 && Modifier.isPublic(constructors[0].getModifiers())
                && constructors[0].getParameterCount() == 0);
        same("the class is public and final", Modifier.isPublic(ZoneGuard.class.getModifiers()) && Modifier.isFinal(ZoneGuard.class.getModifiers()));
        for (Class<?> c : ZoneGuard.class.getDeclaredClasses()) {
            same(c + " is static", Modifier.isStatic(c.getModifiers()) && !Modifier.isPublic(c.getModifiers()));
        }
    }

    private static void source() throws IOException {
        String source = Files.readString(Path.of("src/main/java/ZoneGuard.java"));
        String code = source.replaceAll("(?s)/\\*.*?\\*/", "").replaceAll("//[^\\n]*", "").replaceAll("\"[^\"\\n]*\"", "\"\"");
        for (String word : RULED_OUT) {
            String pattern = Character.isLetter(word.charAt(0)) ? "\\b" + word + "\\b" : word;
            same("no '" + word + "' in the class", !Pattern.compile(pattern).matcher(code).find());
        }
    }

    /** After the constructor no call makes an object; the limit leaves room for the measuring itself. */
    private static void room() {
        com.sun.management.ThreadMXBean bean = (com.sun.management.ThreadMXBean) ManagementFactory.getThreadMXBean();
        dearCalls(new ZoneGuard());
        ZoneGuard guard = new ZoneGuard();
        long before = bean.getThreadAllocatedBytes(Thread.currentThread().getId());
        dearCalls(guard);
        long after = bean.getThreadAllocatedBytes(Thread.currentThread().getId());
        same("500 calls took " + (after - before) + " bytes", after - before < 4000);
        before = bean.getThreadAllocatedBytes(Thread.currentThread().getId());
        guard = new ZoneGuard();
        after = bean.getThreadAllocatedBytes(Thread.currentThread().getId());
        same("a new object took " + (after - before) + " bytes", after - before < 40000);
    }

    private static void dearCalls(ZoneGuard guard) {
        for (int k = 0; k < 40; k++) {
            guard.rule(0, k % 3);
            guard.sets(0, 2, k % 32);
            guard.keeps();
            guard.change(0);
            guard.idle(0, 1);
            guard.all(1);
            guard.cases(0, 0);
            guard.letter(k % 32, 1, 2, 0, 0);
            guard.type("deny;".charAt(k % 5));
            guard.reads();
            guard.back();
            guard.digest();
        }
    }
}
