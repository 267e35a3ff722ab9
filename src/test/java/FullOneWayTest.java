import java.io.IOException;
import java.lang.reflect.Method;
import java.net.URL;
import java.net.URLClassLoader;
import java.nio.file.Files;
import java.nio.file.Path;
import java.util.ArrayList;
import java.util.List;
import javax.tools.JavaCompiler;
import javax.tools.ToolProvider;

/**
 * FULL, as ONE-WAY is more than 150. No machine has more than 45 (all were tried), so the class is compiled once more
 * with a lower limit in the place of 150, and FULL is looked for at that one.
 */
public final class FullOneWayTest {
    private static final int UNKNOWN = -1000000001, OUTSIDE = -1000000002, FULL = -1000000004;
    private static final Path SOURCE = Path.of("src/main/java/TwoWays.java");
    private static final String LIMIT = "ONE_WAY_LIMIT = 150;";

    private final Check check = new Check("FullOneWayTest");
    private Class<?> kind;
    private Object x;
    private String said = "";

    private FullOneWayTest() {
    }

    public static void main(String[] args) throws IOException, ReflectiveOperationException {
        FullOneWayTest t = new FullOneWayTest();
        String source = Files.readString(SOURCE);
        t.check.holds("the limit is 150", source.contains(LIMIT));
        Path room = Files.createTempDirectory("narrow");
        try {
            t.justEnough(t.narrow(source, 5, room));
            t.oneTooFew(t.narrow(source, 4, room));
            t.leastLimit(t.narrow(source, 1, room));
        } finally {
            delete(room);
        }
        t.check.end();
    }

    private static void delete(Path room) throws IOException {
        List<Path> all = new ArrayList<>();
        try (var found = Files.walk(room)) {
            found.forEach(p -> all.add(0, p));
        }
        for (Path p : all) {
            Files.delete(p);
        }
    }

    private Class<?> narrow(String source, int limit, Path room) throws IOException, ReflectiveOperationException {
        Path home = Files.createDirectory(room.resolve("limit" + limit));
        Path file = home.resolve("TwoWays.java");
        Files.writeString(file, source.replace(LIMIT, "ONE_WAY_LIMIT = " + limit + ";"));
        JavaCompiler javac = ToolProvider.getSystemJavaCompiler();
        check.due("javac with the limit " + limit, javac.run(null, null, null, "-d", home.toString(), file.toString()), 0);
        // Without a parent, so that it is not the class with the limit of 150 that is found.
        try (URLClassLoader loader = new URLClassLoader(new URL[] {home.toUri().toURL()}, ClassLoader.getPlatformClassLoader())) {
            Class<?> made = loader.loadClass("TwoWays");
            for (Class<?> inside : made.getDeclaredClasses()) {
                loader.loadClass(inside.getName());
            }
            return made;
        }
    }

    private void sentence(String words, Class<?> narrowed) throws ReflectiveOperationException {
        said = words;
        kind = narrowed;
        x = kind.getConstructor().newInstance();
    }

    private int call(String name, int... args) throws ReflectiveOperationException {
        Class<?>[] types = new Class<?>[args.length];
        Object[] given = new Object[args.length];
        for (int i = 0; i < args.length; i++) {
            types[i] = int.class;
            given[i] = args[i];
        }
        Method m = kind.getMethod(name, types);
        return (Integer) m.invoke(x, given);
    }

    private void due(int want, String name, int... args) throws ReflectiveOperationException {
        StringBuilder told = new StringBuilder(name);
        for (int arg : args) {
            told.append(' ').append(arg);
        }
        check.due("'" + said + "': " + told, call(name, args), want);
    }

    private void tell(int m, String text) throws ReflectiveOperationException {
        for (char c : text.toCharArray()) {
            call("feed", c);
        }
        call("machine", m);
    }

    /** EVEN has five states of one-way: just as many as may be. */
    private void justEnough(Class<?> narrowed) throws ReflectiveOperationException {
        sentence("150 at most", narrowed);
        tell(0, Bench.EVEN);
        tell(1, Bench.EVEN);
        due(5, "ofMachine", 0, 2);
        due(2, "ofMachine", 1, 3);
        due(1, "ofMachine", 0, 4);
        due(2, "ofMachine", 0, 5);
        due(3, "oneWay", 0, 4, 0);
        due(UNKNOWN, "oneWay", 0, 5, 0);
        due(8388608, "taken", 1, 24);
        due(1, "first", 0);
        due(-1, "first", 3);
        due(1, "told", 4);
    }

    private void oneTooFew(Class<?> narrowed) throws ReflectiveOperationException {
        sentence("Promise 20: FULL: what is 2 or more, more than 150", narrowed);
        tell(0, Bench.EVEN);
        due(2, "ofMachine", 0, 0);
        due(6, "ofMachine", 0, 1);
        for (int what = 2; what <= 5; what++) {
            due(FULL, "ofMachine", 0, what);
            due(1, "ofMachine", 1, 2);
        }
        due(OUTSIDE, "ofMachine", 0, 6);
        due(OUTSIDE, "ofMachine", 0, -1);
        due(UNKNOWN, "ofMachine", 2, 2);
        sentence("Promise 21: UNKNOWN (the MACHINE), FULL, then UNKNOWN (no such STATE), OUTSIDE", narrowed);
        tell(1, Bench.EVEN);
        due(UNKNOWN, "oneWay", 2, 0, 0);
        due(FULL, "oneWay", 1, 0, 0);
        due(FULL, "oneWay", 1, -1, 0);
        due(FULL, "oneWay", 1, 150, 0);
        due(FULL, "oneWay", 1, 0, -1);
        due(FULL, "oneWay", 1, 0, 6);
        due(0, "oneWay", 0, 0, 0);
        sentence("Promise 22: UNKNOWN, OUTSIDE, FULL", narrowed);
        tell(1, Bench.EVEN);
        due(FULL, "taken", 1, 0);
        due(FULL, "taken", 1, 24);
        due(OUTSIDE, "taken", 1, 25);
        due(OUTSIDE, "taken", 1, -1);
        due(UNKNOWN, "taken", 2, 25);
        due(0, "taken", 0, 24);
        sentence("Promise 24: UNKNOWN, OUTSIDE (it is never FULL)", narrowed);
        tell(0, Bench.EVEN);
        due(32, "turned", 0, 6);
        bothAsked(narrowed);
    }

    private void bothAsked(Class<?> narrowed) throws ReflectiveOperationException {
        for (int m = 0; m < 2; m++) {
            sentence("Promise 15: FULL: ONE-WAY of one is more than 150", narrowed);
            due(1, "told", 4);
            tell(m, Bench.EVEN);
            due(FULL, "told", 4);
            due(1, "told", 3);
            sentence("Promise 23: UNKNOWN (the RULE), FULL", narrowed);
            tell(m, Bench.EVEN);
            for (int rule = 0; rule < 4; rule++) {
                due(FULL, "first", rule);
            }
            due(UNKNOWN, "first", 4);
            due(UNKNOWN, "first", -1);
            sentence("What is refused changes nothing", narrowed);
            tell(m, Bench.EVEN);
            due(FULL, "ofMachine", m, 2);
            due(1, "told", 3);
            due(3, "moveOf", m, 0, 0);
            due(1, "states", 1 - m, 3);
            due(1, "ofMachine", 1 - m, 2);
            due(2, "states", m, 2);
            due(1, "ofMachine", m, 2);
            due(-1, "first", 1);
            due(2, "undo");
            due(FULL, "first", 1);
        }
    }

    private void leastLimit(Class<?> narrowed) throws ReflectiveOperationException {
        sentence("150 at most", narrowed);
        due(1, "ofMachine", 0, 2);
        tell(0, Bench.ALL);
        due(1, "ofMachine", 0, 2);
        due(1, "first", 2);
        tell(1, Bench.HAS_B);
        due(FULL, "ofMachine", 1, 2);
        due(1, "ofMachine", 0, 2);
    }
}
