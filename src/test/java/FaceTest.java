import java.io.IOException;
import java.io.PrintWriter;
import java.io.StringWriter;
import java.lang.management.ManagementFactory;
import java.lang.reflect.Constructor;
import java.lang.reflect.Field;
import java.lang.reflect.Method;
import java.lang.reflect.Modifier;
import java.nio.file.Files;
import java.nio.file.Path;
import java.util.ArrayDeque;
import java.util.ArrayList;
import java.util.List;
import java.util.Map;
import java.util.Set;
import java.util.TreeMap;
import java.util.TreeSet;
import java.util.regex.Matcher;
import java.util.regex.Pattern;
import java.util.spi.ToolProvider;

/** The public face, the rules of LANGUAGE.md that a program can look at, and how much a run of calls makes. */
public final class FaceTest {
    private static final Path SOURCE = Path.of("src/main/java/TwoWays.java");
    private static final Set<String> FACE = Set.of("feed 1", "machine 1", "fault 0", "move 5", "none 3", "states 2", "drift 2",
            "swap 0", "undo 0", "moveOf 3", "letter 1", "word 1", "wipe 0", "told 1", "run 2", "crossed 3", "table 5", "alike 5",
            "ofMachine 2", "oneWay 3", "taken 2", "first 1", "turned 2", "keep 1", "goBack 1");
    private static final Set<String> CONSTANTS = Set.of("NONE", "UNKNOWN", "OUTSIDE", "NOT", "FULL");

    private final Check check = new Check("FaceTest");

    private FaceTest() {
    }

    public static void main(String[] args) throws IOException {
        FaceTest t = new FaceTest();
        t.publicFace();
        t.classesInside();
        t.depthOfCalls();
        t.sourceRules();
        t.methodLengths();
        t.callsMakeNothing();
        t.check.end();
    }

    private static boolean isPrivate(int modifiers) {
        return Modifier.isPrivate(modifiers);
    }

    private void publicFace() {
        Set<String> seen = new TreeSet<>();
        for (Method m : TwoWays.class.getDeclaredMethods()) {
            if (!isPrivate(m.getModifiers())) {
                boolean ints = m.getReturnType() == int.class;
                for (Class<?> type : m.getParameterTypes()) {
                    ints = ints && type == int.class;
                }
                check.holds(m + " is of ints", ints && m.getModifiers() == Modifier.PUBLIC);
                seen.add(m.getName() + " " + m.getParameterCount());
            }
        }
        check.holds("the methods are the document's: " + seen, seen.equals(new TreeSet<>(FACE)));
        Set<String> fields = new TreeSet<>();
        for (Field f : TwoWays.class.getDeclaredFields()) {
            if (!isPrivate(f.getModifiers())) {
                check.holds(f + " is a constant", f.getModifiers() == (Modifier.PUBLIC | Modifier.STATIC | Modifier.FINAL)
                        && f.getType() == int.class);
                fields.add(f.getName());
            }
        }
        check.holds("the constants are the document's", fields.equals(new TreeSet<>(CONSTANTS)));
        Constructor<?>[] made = TwoWays.class.getDeclaredConstructors();
        check.holds("there is one constructor", made.length == 1 && made[0].getParameterCount() == 0
                && Modifier.isPublic(made[0].getModifiers()));
        check.holds("the class is public and final", TwoWays.class.getModifiers() == (Modifier.PUBLIC | Modifier.FINAL));
    }

    private void classesInside() {
        Class<?>[] inside = TwoWays.class.getDeclaredClasses();
        check.holds("there are at most twelve classes", inside.length < 12);
        for (Class<?> c : inside) {
            check.holds(c + " is static and not public", Modifier.isStatic(c.getModifiers())
                    && !Modifier.isPublic(c.getModifiers()) && !Modifier.isProtected(c.getModifiers()));
            membersOf(c);
        }
        membersOf(TwoWays.class);
    }

    private void membersOf(Class<?> c) {
        Set<String> publicNames = new TreeSet<>();
        FACE.forEach(name -> publicNames.add(name.split(" ")[0]));
        int fields = 0;
        for (Field f : c.getDeclaredFields()) {
            check.holds(f + " is no static state", !Modifier.isStatic(f.getModifiers())
                    || Modifier.isFinal(f.getModifiers()) && f.getType() == int.class);
            fields += Modifier.isStatic(f.getModifiers()) ? 0 : 1;
        }
        check.holds(c + " has at most twenty fields", fields <= 20);
        for (Method m : c.getDeclaredMethods()) {
            check.holds(m + " bears no name of the face",
                    c == TwoWays.class && Modifier.isPublic(m.getModifiers()) || !publicNames.contains(m.getName()));
            check.holds(m + " takes at most seven", m.getParameterCount() <= 7);
        }
    }

    // ---- how deep the calls go

    /** No method comes back to itself, and a call of the face stands at most eight methods deep. */
    private void depthOfCalls() {
        Map<String, Set<String>> calls = callsInside();
        check.holds("calls were found", calls.size() > FACE.size() && calls.get("TwoWays.machine").size() > 3);
        for (String method : calls.keySet()) {
            int depth = depthOf(method, calls, new ArrayDeque<>());
            check.holds(method + " goes at most eight deep, not " + depth, depth <= 8);
        }
    }

    private int depthOf(String method, Map<String, Set<String>> calls, ArrayDeque<String> open) {
        if (open.contains(method)) {
            check.holds(method + " does not come back to itself", false);
            return 0;
        }
        open.push(method);
        int deepest = 0;
        for (String called : calls.getOrDefault(method, Set.of())) {
            deepest = Math.max(deepest, depthOf(called, calls, open));
        }
        open.pop();
        return deepest + 1;
    }

    /** For each method of the class and of those inside it, by class and name, the ones that it calls. */
    private static Map<String, Set<String>> callsInside() {
        Map<String, Set<String>> calls = new TreeMap<>();
        Pattern head = Pattern.compile("^  \\S.*?([\\w$]+)\\(.*\\);$");
        Pattern call = Pattern.compile("// Method (?:(TwoWays[\\w$]*)\\.)?\"?([\\w<>]+)\"?:\\(");
        List<Class<?>> classes = new ArrayList<>(List.of(TwoWays.class.getDeclaredClasses()));
        classes.add(TwoWays.class);
        for (Class<?> c : classes) {
            Set<String> now = new TreeSet<>();
            for (String line : byteCode(c.getName()).split("\\R")) {
                Matcher begun = head.matcher(line);
                Matcher called = call.matcher(line);
                if (begun.find()) {
                    String name = begun.group(1).equals(c.getName()) ? "<init>" : begun.group(1);
                    now = calls.computeIfAbsent(c.getName() + "." + name, n -> new TreeSet<>());
                } else if (called.find()) {
                    now.add((called.group(1) == null ? c.getName() : called.group(1)) + "." + called.group(2));
                }
            }
        }
        return calls;
    }

    private static String byteCode(String name) {
        StringWriter told = new StringWriter();
        PrintWriter out = new PrintWriter(told);
        ToolProvider.findFirst("javap").orElseThrow()
                .run(out, out, "-c", "-p", "-cp", System.getProperty("java.class.path"), name);
        return told.toString();
    }

    /** The source without comments and without what stands in quotes. */
    private static String bareSource() throws IOException {
        return Files.readString(SOURCE).replaceAll("(?s)/\\*.*?\\*/", "").replaceAll("//[^\n]*", "").replaceAll("'.'", "0");
    }

    private void sourceRules() throws IOException {
        String source = bareSource();
        String[] banned = {"\\bthrow\\b", "\\bthrows\\b", "\\btry\\b", "\\bcatch\\b", "\\bfinally\\b", "\\bsynchronized\\b",
            "\\bassert\\b", "->", "::", "\\bpackage\\b", "\\bdouble\\b", "\\bfloat\\b", "Exact\\b", "\\bSystem\\.(?!arraycopy\\b)",
            "\\bMath\\.(?!min\\b|max\\b)", "\\bArrays\\.(?!fill\\b)", "\\bstatic\\s*\\{", "\"", "\\bwhile\\s*\\(true\\)", "@"};
        for (String word : banned) {
            check.holds("the source is without " + word, !Pattern.compile(word).matcher(source).find());
        }
        Matcher imports = Pattern.compile("import ([^;]*);").matcher(source);
        while (imports.find()) {
            check.holds(imports.group(1) + " may be used", imports.group(1).equals("java.util.Arrays"));
        }
        for (char c : Files.readString(SOURCE).toCharArray()) {
            if (c > 126 || c < 32 && c != '\n') {
                check.holds("the sign " + (int) c + " does not stand in the source", false);
            }
        }
    }

    private void methodLengths() throws IOException {
        String[] lines = bareSource().split("\n");
        int begun = -1;
        String indent = "";
        for (int i = 0; i < lines.length; i++) {
            Matcher head = Pattern.compile("^( {4}| {8})(?! )(?!.*\\bclass\\b)[\\w\\[\\]<> ]+\\(.*\\{$").matcher(lines[i]);
            if (begun < 0 && head.find()) {
                begun = i;
                indent = head.group(1);
            } else if (begun >= 0 && lines[i].equals(indent + "}")) {
                check.holds("the method at '" + lines[begun].trim() + "' is short", i - begun <= 60);
                begun = -1;
            }
        }
    }

    /** The object lives in a small room: a run of calls makes nothing beside what the constructor made. */
    private void callsMakeNothing() {
        com.sun.management.ThreadMXBean bean = (com.sun.management.ThreadMXBean) ManagementFactory.getThreadMXBean();
        long self = Thread.currentThread().getId();
        manyCalls(new TwoWays());
        long ahead = bean.getThreadAllocatedBytes(self);
        TwoWays x = new TwoWays();
        long made = bean.getThreadAllocatedBytes(self);
        manyCalls(x);
        long behind = bean.getThreadAllocatedBytes(self);
        check.holds("an object takes less than 300,000 bytes, not " + (made - ahead), made - ahead < 300000);
        check.holds("calls make nothing, not " + (behind - made), behind - made < 2000);
    }

    private static int manyCalls(TwoWays x) {
        int sum = x.states(0, 4) + x.states(1, 4);
        for (int i = 1; i <= 16; i++) {
            sum += x.drift(0, i) + x.drift(1, i * 37) + x.letter(97) + x.letter(98) + x.told(1) + x.told(4);
            sum += x.feed('q') + x.feed('3') + x.feed(';') + x.machine(i % 2) + x.fault() + x.swap() + x.undo();
            sum += x.run(0, 2) + x.run(1, 5) + x.crossed(0, 1, 0) + x.table(0, 0, 1, 0, 0) + x.alike(0, 0, 1, 1, 2);
            sum += x.ofMachine(0, 3) + x.ofMachine(1, 4) + x.oneWay(0, 0, 3) + x.taken(0, 24) + x.first(3) + x.turned(1, 6);
            sum += x.keep(0) + x.goBack(0) + x.move(0, 0, 0, 0, 0) + x.none(0, 0, 0) + x.wipe() + x.word(77);
        }
        return sum;
    }
}
