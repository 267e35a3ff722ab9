import java.util.Random;

/** Long runs of calls, ordinary and wrong ones, each answered by the class and by the oracle. */
public final class AgainstOracleTest {
    private static final int RUNS = 700, CALLS = 500;
    private static final int[] EDGES = {Integer.MIN_VALUE, Integer.MAX_VALUE, -1000000001, -2, -1, 5, 6, 7, 25, 150, 255, 256};

    private final Check check = new Check("AgainstOracleTest");
    private final Random random;
    private TwoWays real;
    private Oracle oracle;
    private int run;
    private int calls;

    private AgainstOracleTest(long seed) {
        random = new Random(seed);
    }

    public static void main(String[] args) {
        AgainstOracleTest test = new AgainstOracleTest(20261118L);
        for (int i = 0; i < RUNS; i++) {
            test.oneRun(i);
        }
        test.check.end();
    }

    private void oneRun(int number) {
        run = number;
        calls = 0;
        real = new TwoWays();
        oracle = new Oracle();
        while (calls < CALLS) {
            int kind = random.nextInt(100);
            if (kind < 6) {
                tellMachine();
            } else if (kind < 35) {
                changeMachine();
            } else if (kind < 55) {
                useWord();
            } else if (kind < 96) {
                askTables();
            } else {
                useImages();
            }
        }
    }

    private void due(String call, int got, int want) {
        calls++;
        check.due("run " + run + ", call " + calls + ": " + call + " of " + oracle.mach(0).tell() + " " + oracle.mach(1).tell(),
                got, want);
    }

    /** Mostly 0 .. bound less 1, now and then a number that is out of it. */
    private int pick(int bound) {
        return random.nextInt(25) == 0 ? EDGES[random.nextInt(EDGES.length)]
                : random.nextInt(25) == 0 ? bound : random.nextInt(bound);
    }

    private int pickState(int m) {
        return pick(m == 0 || m == 1 ? oracle.mach(m).q : 4);
    }

    private void tellMachine() {
        String text = random.nextInt(12) == 0 ? "" : randomText();
        for (char c : text.toCharArray()) {
            due("feed(" + (int) c + ")", real.feed(c), oracle.feed(c));
        }
        int m = pick(2);
        due("machine(" + m + ") of '" + text + "'", real.machine(m), oracle.machine(m));
        due("fault() of '" + text + "'", real.fault(), oracle.fault());
        due("told(2)", real.told(2), oracle.told(2));
        due("told(3)", real.told(3), oracle.told(3));
    }

    private String randomText() {
        int q = 1 + random.nextInt(4);
        StringBuilder b = new StringBuilder("q" + q + ";");
        boolean full = random.nextBoolean();
        for (int s = 0; s < q; s++) {
            for (int c = 0; c < 4; c++) {
                if (full || random.nextInt(3) > 0) {
                    b.append("m" + s + "ab()".charAt(c) + random.nextInt(q) + "lr".charAt(random.nextInt(2)) + ";");
                }
            }
        }
        int spoilt = random.nextInt(4) == 0 ? 1 + random.nextInt(2) : 0;
        for (int i = 0; i < spoilt; i++) {
            spoil(b);
        }
        for (int i = random.nextInt(4); i > 0; i--) {
            b.insert(random.nextInt(b.length() + 1), ' ');
        }
        return b.toString();
    }

    private void spoil(StringBuilder b) {
        String letters = "qmabc()lr;0123459 \u0000\u00ff";
        int at = b.length() == 0 ? 0 : random.nextInt(b.length());
        int way = random.nextInt(4);
        if (way == 0 || b.length() == 0) {
            b.insert(at, letters.charAt(random.nextInt(letters.length())));
        } else if (way == 1) {
            b.setCharAt(at, letters.charAt(random.nextInt(letters.length())));
        } else if (way == 2) {
            b.deleteCharAt(at);
        } else {
            b.setLength(at);
        }
    }

    private void changeMachine() {
        int m = pick(2);
        int s = pickState(m);
        int c = pick(4);
        int kind = random.nextInt(20);
        if (kind < 11) {
            int to = pickState(m);
            int side = pick(2);
            due("move(" + m + "," + s + "," + c + "," + to + "," + side + ")", real.move(m, s, c, to, side),
                    oracle.move(m, s, c, to, side));
        } else if (kind < 13) {
            due("none(" + m + "," + s + "," + c + ")", real.none(m, s, c), oracle.none(m, s, c));
        } else if (kind == 13) {
            int n = pick(4) + 1;
            due("states(" + m + "," + n + ")", real.states(m, n), oracle.states(m, n));
        } else if (kind < 16) {
            int seed = pick(999999) + 1;
            due("drift(" + m + "," + seed + ")", real.drift(m, seed), oracle.drift(m, seed));
        } else if (kind == 16) {
            due("swap()", real.swap(), oracle.swap());
        } else if (kind == 17) {
            for (int i = random.nextInt(10); i >= 0; i--) {
                due("undo()", real.undo(), oracle.undo());
            }
        } else {
            due("moveOf(" + m + "," + s + "," + c + ")", real.moveOf(m, s, c), oracle.moveOf(m, s, c));
        }
    }

    private void useWord() {
        int m = pick(2);
        int kind = random.nextInt(20);
        if (kind < 4) {
            int letter = 97 + pick(2);
            due("letter(" + letter + ")", real.letter(letter), oracle.letter(letter));
        } else if (kind < 6) {
            int number = pick(1 << (1 + random.nextInt(25)));
            due("word(" + number + ")", real.word(number), oracle.word(number));
        } else if (kind == 6 && random.nextInt(3) == 0) {
            due("wipe()", real.wipe(), oracle.wipe());
        } else if (kind < 10) {
            int what = pick(5);
            due("told(" + what + ")", real.told(what), oracle.told(what));
        } else if (kind < 15) {
            int what = pick(6);
            due("run(" + m + "," + what + ")", real.run(m, what), oracle.run(m, what));
        } else {
            int gap = pick(oracle.told(0) + 1);
            int k = pick(6) - 1;
            due("crossed(" + m + "," + gap + "," + k + ")", real.crossed(m, gap, k), oracle.crossed(m, gap, k));
        }
    }

    private void askTables() {
        int m = pick(2);
        int letters = oracle.told(0);
        int i = pick(letters + 1);
        int j = random.nextInt(4) == 0 ? pick(letters + 1) : i + random.nextInt(letters + 1);
        int kind = random.nextInt(24);
        if (kind < 6) {
            int s = pickState(m);
            int side = pick(2);
            due("table(" + m + "," + i + "," + j + "," + s + "," + side + ") " + oracle.told(1),
                    real.table(m, i, j, s, side), oracle.table(m, i, j, s, side));
        } else if (kind < 10) {
            int a = pick(letters + 1);
            int b = a + random.nextInt(letters + 1);
            due("alike(" + m + "," + i + "," + j + "," + a + "," + b + ") " + oracle.told(1), real.alike(m, i, j, a, b),
                    oracle.alike(m, i, j, a, b));
        } else if (kind < 14) {
            int what = pick(6);
            due("ofMachine(" + m + "," + what + ")", real.ofMachine(m, what), oracle.ofMachine(m, what));
        } else if (kind < 18) {
            int s = pick(Math.max(1, m == 0 || m == 1 ? oracle.ofMachine(m, 2) : 1));
            int what = pick(8);
            due("oneWay(" + m + "," + s + "," + what + ")", real.oneWay(m, s, what), oracle.oneWay(m, s, what));
        } else if (kind < 20) {
            int length = pick(random.nextInt(3) == 0 ? 25 : 8);
            due("taken(" + m + "," + length + ")", real.taken(m, length), oracle.taken(m, length));
        } else if (kind < 23) {
            int rule = pick(4);
            due("first(" + rule + ")", real.first(rule), oracle.first(rule));
        } else {
            int length = pick(7);
            due("turned(" + m + "," + length + ")", real.turned(m, length), oracle.turned(m, length));
        }
    }

    private void useImages() {
        int i = pick(2);
        if (random.nextBoolean()) {
            due("keep(" + i + ")", real.keep(i), oracle.keep(i));
        } else {
            due("goBack(" + i + ")", real.goBack(i), oracle.goBack(i));
        }
    }
}
