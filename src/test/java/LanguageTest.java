import java.io.IOException;
import java.lang.management.ManagementFactory;
import java.lang.reflect.Constructor;
import java.lang.reflect.Field;
import java.lang.reflect.Method;
import java.lang.reflect.Modifier;
import java.nio.file.Files;
import java.nio.file.Path;
import java.util.ArrayList;
import java.util.List;
import java.util.Set;
import java.util.TreeSet;
import java.util.regex.Pattern;

/** The face of the class, the words that LANGUAGE.md rules out, and the room that calls take. */
public final class LanguageTest {
    /** 'The public face' of the document, word by word. */
    private static final String FACE = """
            public int zone(int z, int a, int b);
            public int zoneOf(int a);
            public int rule(int at, int action);
            public int sets(int r, int what, int v);
            public int drops(int r);
            public int moves(int r, int to);
            public int of(int r, int what);
            public int keeps();
            public int takes();
            public int decides(int source, int goal, int port, int sort);
            public int cases(int r, int what);
            public int idle(int r, int what);
            public int contradicts(int q, int r);
            public int change(int what);
            public int all(int a);
            public int letter(int source, int goal, int port, int sort, int sign);
            public int announces(int i, int way, int port);
            public int ticks(int n);
            public int span(int g, int v);
            public int cuts();
            public int flow(int i, int what);
            public int count(int what);
            public int type(int c);
            public int clear();
            public int reads();
            public int back();
            public int told(int what);
            public long digest();
            """;
    private static final String[] RULED_OUT = {"throw", "try", "catch", "synchronized", "assert", "import", "new\\s+int\\s*\\[[^\\]]*\\]\\s*\\[\\s*\\]",
        "static\\s*\\{", "->", "::", "Object", "protected", "\\w+Exact", "double", "float", "Random", "nanoTime", "currentTimeMillis"};

    public static void main(String[] args) throws IOException, ReflectiveOperationException {
        face();
        constants();
        shape();
        source();
        room();
        Run.end();
    }

    private static void same(String what, boolean holds) {
        Run.same(what, holds ? 1 : 0, 1);
    }

    private static void face() {
        Set<String> seen = new TreeSet<>();
        Set<String> names = new TreeSet<>();
        for (Method m : ZoneGuard.class.getDeclaredMethods()) {
            same(m + " is public or private", Modifier.isPublic(m.getModifiers()) || Modifier.isPrivate(m.getModifiers()));
            if (Modifier.isPublic(m.getModifiers())) {
                seen.add(Modifier.toString(m.getModifiers()) + " " + m.getReturnType() + " " + m.getName() + typesOf(m));
                names.add(m.getName());
            }
        }
        Set<String> face = new TreeSet<>();
        for (String line : FACE.split(";\\s*")) {
            face.add(line.replaceAll("int \\w+([,)])", "int$1"));
        }
        same("The public face: the methods of the document, " + seen + ", due are " + face, seen.equals(face));
        for (Method m : ZoneGuard.class.getDeclaredMethods()) {
            same(m + " bears its own name", Modifier.isPublic(m.getModifiers()) || !names.contains(m.getName()));
        }
        Constructor<?>[] constructors = ZoneGuard.class.getDeclaredConstructors();
        same("one public constructor without arguments", constructors.length == 1 && Modifier.isPublic(constructors[0].getModifiers())
                && constructors[0].getParameterCount() == 0);
        same("the class is public and final", Modifier.isPublic(ZoneGuard.class.getModifiers()) && Modifier.isFinal(ZoneGuard.class.getModifiers()));
        for (Class<?> c : ZoneGuard.class.getDeclaredClasses()) {
            same(c + " is static", Modifier.isStatic(c.getModifiers()) && !Modifier.isPublic(c.getModifiers()));
        }
    }

    private static String typesOf(Method m) {
        StringBuilder types = new StringBuilder();
        for (Class<?> type : m.getParameterTypes()) {
            types.append(types.length() == 0 ? "" : ", ").append(type);
        }
        return "(" + types + ")";
    }

    private static void constants() throws ReflectiveOperationException {
        Set<String> constants = new TreeSet<>();
        for (Field f : ZoneGuard.class.getDeclaredFields()) {
            if (!Modifier.isPrivate(f.getModifiers())) {
                constants.add(Modifier.toString(f.getModifiers()) + " " + f.getType() + " " + f.getName() + " = " + f.get(null));
            }
        }
        same("The public face: 'public static final int NONE = -1, BAD = -2, NO = -3, FULL = -4', " + constants,
                constants.equals(Set.of("public static final int NONE = -1", "public static final int BAD = -2",
                        "public static final int NO = -3", "public static final int FULL = -4")));
    }

    /** What LANGUAGE.md (1, 2, 5 and 11) says of all classes, the ones inside too. */
    private static void shape() {
        List<Class<?>> classes = new ArrayList<>(List.of(ZoneGuard.class.getDeclaredClasses()));
        classes.add(ZoneGuard.class);
        same("at most twelve classes: " + classes, classes.size() <= 12);
        for (Class<?> c : classes) {
            int fields = 0;
            for (Field f : c.getDeclaredFields()) {
                boolean isStatic = Modifier.isStatic(f.getModifiers());
                same(f + " is final if it is static", !isStatic || Modifier.isFinal(f.getModifiers()));
                fields += isStatic ? 0 : 1;
            }
            same(c + " has at most twenty fields", fields <= 20);
            for (Method m : c.getDeclaredMethods()) {
                same(m + " has at most seven parameters", m.getParameterCount() <= 7);
                same(m + " bears no name of the face", c == ZoneGuard.class || !FACE.contains(" " + m.getName() + "("));
            }
            same(c + " has no class inside but ZoneGuard", c == ZoneGuard.class || c.getDeclaredClasses().length == 0);
        }
    }

    private static void source() throws IOException {
        String source = Files.readString(Path.of("src/main/java/ZoneGuard.java"));
        String code = source.replaceAll("(?s)/\\*.*?\\*/", "").replaceAll("//[^\\n]*", "").replaceAll("\"[^\"\\n]*\"", "\"\"");
        for (String word : RULED_OUT) {
            String pattern = Character.isLetter(word.charAt(0)) ? "\\b" + word + "\\b" : word;
            same("no '" + word + "' in the class", !Pattern.compile(pattern).matcher(code).find());
        }
    }

    /** After the constructor no call makes an object; the limit leaves room for the measuring itself. */
    private static void room() {
        com.sun.management.ThreadMXBean bean = (com.sun.management.ThreadMXBean) ManagementFactory.getThreadMXBean();
        dearCalls(new ZoneGuard());
        ZoneGuard guard = new ZoneGuard();
        long before = bean.getThreadAllocatedBytes(Thread.currentThread().getId());
        dearCalls(guard);
        long after = bean.getThreadAllocatedBytes(Thread.currentThread().getId());
        same("500 calls took " + (after - before) + " bytes", after - before < 4000);
        before = bean.getThreadAllocatedBytes(Thread.currentThread().getId());
        guard = new ZoneGuard();
        after = bean.getThreadAllocatedBytes(Thread.currentThread().getId());
        same("a new object took " + (after - before) + " bytes", after - before < 40000);
    }

    private static void dearCalls(ZoneGuard guard) {
        for (int k = 0; k < 40; k++) {
            guard.rule(0, k % 3);
            guard.sets(0, 2, k % 32);
            guard.keeps();
            guard.change(0);
            guard.idle(0, 1);
            guard.all(1);
            guard.cases(0, 0);
            guard.letter(k % 32, 1, 2, 0, 0);
            guard.type("deny;".charAt(k % 5));
            guard.reads();
            guard.back();
            guard.digest();
        }
    }
}
