import java.util.ArrayList;
import java.util.List;

/** The boundary cases of "What it is" and of the first part of "Terms", a test for each sentence. */
public final class TermsBoundsTest extends Bench {
    /** A call on an object. */
    private interface Call {
        int on(TwoWays x);
    }

    /** A call that is refused, with the refusal that is due. */
    private record Refused(String name, int answer, Call call) {
    }

    private TermsBoundsTest() {
        super("TermsBoundsTest");
    }

    public static void main(String[] args) {
        TermsBoundsTest t = new TermsBoundsTest();
        t.numbersFromNone();
        t.constants();
        t.unknownAheadOfOutside();
        t.unknownAheadOfNot();
        t.outsideAheadOfFull();
        t.refusedChangesNothing();
        t.lastOfAllCalls();
        t.end();
    }

    private void numbersFromNone() {
        sentence("Terms", "What has a number has it from 0 on, as it comes.");
        due("machine 0", x.ofMachine(0, 0), 1);
        due("machine -1", x.ofMachine(-1, 0), UNKNOWN);
        due("state 0", x.moveOf(0, 0, 0), NONE);
        due("state -1", x.moveOf(0, -1, 0), UNKNOWN);
        due("sign -1", x.moveOf(0, 0, -1), UNKNOWN);
        due("rule 0", x.first(0), NONE);
        due("rule -1", x.first(-1), UNKNOWN);
        due("image 0", x.keep(0), 1);
        due("image -1", x.keep(-1), UNKNOWN);
        due("state 0 of one-way", x.oneWay(0, 0, 0), 0);
        due("state -1 of one-way", x.oneWay(0, -1, 0), UNKNOWN);
        tell(0, ALL);
        setWord("a");
        due("gap 0, crossed 0", x.crossed(0, 0, 0), 0);
        due("letter 0", x.table(0, 0, 1, 0, 0), 1);
        due("letter -1", x.table(0, -1, 1, 0, 0), OUTSIDE);
    }

    private void constants() {
        sentence("Terms", "They are far below all that is counted: -1000000001 and on.");
        due("NONE", TwoWays.NONE, -1);
        due("UNKNOWN", TwoWays.UNKNOWN, -1000000001);
        due("OUTSIDE", TwoWays.OUTSIDE, -1000000002);
        due("NOT", TwoWays.NOT, -1000000003);
        due("FULL", TwoWays.FULL, -1000000004);
    }

    private void unknownAheadOfOutside() {
        sentence("Terms", "REFUSALS, of several the first in this order: UNKNOWN .. OUTSIDE");
        setWord("a");
        due("move, machine", x.move(2, 0, 0, 0, 2), UNKNOWN);
        due("move, state", x.move(0, 1, 0, 0, 2), UNKNOWN);
        due("move, sign", x.move(0, 0, 4, 0, 2), UNKNOWN);
        due("move, to", x.move(0, 0, 0, 1, 2), UNKNOWN);
        due("states", x.states(2, 0), UNKNOWN);
        due("drift", x.drift(2, 0), UNKNOWN);
        due("run", x.run(2, 6), UNKNOWN);
        due("crossed, gap", x.crossed(2, 2, 0), UNKNOWN);
        due("crossed, k", x.crossed(2, 0, -2), UNKNOWN);
        due("table, machine", x.table(2, 1, 1, 0, 0), UNKNOWN);
        due("table, state and side", x.table(0, 0, 1, 1, 2), UNKNOWN);
        due("table, state and letters", x.table(0, 0, 2, 1, 0), UNKNOWN);
        due("alike, first piece", x.alike(2, 0, 2, 0, 1), UNKNOWN);
        due("alike, second piece", x.alike(2, 0, 1, 0, 2), UNKNOWN);
        due("ofMachine", x.ofMachine(2, 6), UNKNOWN);
        due("oneWay, machine", x.oneWay(2, 0, 5), UNKNOWN);
        due("oneWay, state", x.oneWay(0, 1, 5), UNKNOWN);
        due("taken", x.taken(2, 25), UNKNOWN);
        due("turned", x.turned(2, 7), UNKNOWN);
    }

    private void unknownAheadOfNot() {
        sentence("Terms", "REFUSALS, of several the first in this order: UNKNOWN .. NOT");
        due("none, machine", x.none(2, 0, 0), UNKNOWN);
        due("none, state", x.none(0, 1, 0), UNKNOWN);
        due("none, sign", x.none(0, 0, 4), UNKNOWN);
        due("goBack", x.goBack(2), UNKNOWN);
    }

    private void outsideAheadOfFull() {
        sentence("Terms", "REFUSALS, of several the first in this order: .. OUTSIDE .. FULL");
        feedAll(" ".repeat(240));
        x.word(1 << 24);
        due("feed, full", x.feed(32), FULL);
        due("feed, both", x.feed(256), OUTSIDE);
        due("letter, full", x.letter(97), FULL);
        due("letter, both", x.letter(99), OUTSIDE);
    }

    // ---- what is refused changes nothing

    private void refusedChangesNothing() {
        sentence("Terms", "What is refused changes nothing.");
        List<Refused> anywhere = refusedAnywhere();
        List<Refused> rich = new ArrayList<>(anywhere);
        rich.add(new Refused("goBack(1)", NOT, y -> y.goBack(1)));
        List<Refused> bare = new ArrayList<>(anywhere);
        bare.add(new Refused("undo()", NOT, TwoWays::undo));
        List<Refused> brimful = new ArrayList<>(rich);
        brimful.add(new Refused("feed(97)", FULL, y -> y.feed(97)));
        brimful.add(new Refused("letter(97)", FULL, y -> y.letter(97)));
        dueUnchanged("rich", () -> made(8, "q2;m0", 0b1011), rich);
        dueUnchanged("bare", () -> made(0, "", 1), bare);
        dueUnchanged("brimful", () -> made(3, "q2;m1b0l;" + " ".repeat(231), (1 << 25) - 2), brimful);
    }

    private interface Maker {
        TwoWays make();
    }

    /** Machine 0 is EVEN, machine 1 has one state; image 0 is kept, so many changes can be undone, there was a fault. */
    private TwoWays made(int changes, String text, int word) {
        x = new TwoWays();
        tell(0, "q9;");
        tell(0, EVEN);
        tell(1, ALL);
        x.keep(0);
        for (int i = 0; i < changes; i++) {
            x.move(1, 0, i % 4, 0, i / 4);
        }
        feedAll(text);
        x.word(word);
        return x;
    }

    private void dueUnchanged(String what, Maker maker, List<Refused> calls) {
        List<Integer> untouched = traceOf(maker.make());
        for (Refused r : calls) {
            TwoWays y = maker.make();
            due(what + ", " + r.name(), r.call().on(y), r.answer());
            List<Integer> touched = traceOf(y);
            due(what + ", answers behind " + r.name(), touched.size(), untouched.size());
            for (int i = 0; i < Math.min(touched.size(), untouched.size()); i++) {
                due(what + ", answer " + i + " behind " + r.name(), touched.get(i), untouched.get(i));
            }
        }
    }

    /** All that an object shows: as it is now, what can be undone, the text, the word, the images. */
    private List<Integer> traceOf(TwoWays y) {
        List<Integer> trace = new ArrayList<>();
        for (int what = 0; what < 5; what++) {
            trace.add(y.told(what));
        }
        trace.add(y.fault());
        for (int m = 0; m < 2; m++) {
            for (int what = 0; what < 6; what++) {
                trace.add(y.run(m, what));
                trace.add(y.ofMachine(m, what));
            }
        }
        addMoves(trace, y);
        for (int i = 0; i < 9; i++) {
            trace.add(y.undo());
            addMoves(trace, y);
        }
        for (char c : "a1r;".toCharArray()) {
            trace.add(y.feed(c));
        }
        trace.add(y.machine(1));
        trace.add(y.fault());
        addMoves(trace, y);
        trace.add(y.letter(97));
        trace.add(y.told(1));
        for (int i = 0; i < 2; i++) {
            trace.add(y.goBack(i));
            addMoves(trace, y);
        }
        return trace;
    }

    private static void addMoves(List<Integer> trace, TwoWays y) {
        for (int m = 0; m < 2; m++) {
            for (int i = 0; i < 16; i++) {
                trace.add(y.moveOf(m, i / 4, i % 4));
            }
        }
    }

    private static List<Refused> refusedAnywhere() {
        List<Refused> calls = new ArrayList<>(refusedChanges());
        calls.add(new Refused("letter(96)", OUTSIDE, y -> y.letter(96)));
        calls.add(new Refused("letter(99)", OUTSIDE, y -> y.letter(99)));
        calls.add(new Refused("word(0)", OUTSIDE, y -> y.word(0)));
        calls.add(new Refused("word(1 << 25)", OUTSIDE, y -> y.word(1 << 25)));
        calls.add(new Refused("told(-1)", OUTSIDE, y -> y.told(-1)));
        calls.add(new Refused("told(5)", OUTSIDE, y -> y.told(5)));
        calls.add(new Refused("run(2, 0)", UNKNOWN, y -> y.run(2, 0)));
        calls.add(new Refused("run(0, 6)", OUTSIDE, y -> y.run(0, 6)));
        calls.add(new Refused("crossed(2, 0, 0)", UNKNOWN, y -> y.crossed(2, 0, 0)));
        calls.add(new Refused("crossed(0, 25, 0)", OUTSIDE, y -> y.crossed(0, 25, 0)));
        calls.add(new Refused("crossed(0, 0, -2)", OUTSIDE, y -> y.crossed(0, 0, -2)));
        calls.add(new Refused("table(0, 0, 1, 2, 0)", UNKNOWN, y -> y.table(0, 0, 1, 2, 0)));
        calls.add(new Refused("table(0, 1, 1, 0, 0)", OUTSIDE, y -> y.table(0, 1, 1, 0, 0)));
        calls.add(new Refused("alike(2, 0, 1, 0, 1)", UNKNOWN, y -> y.alike(2, 0, 1, 0, 1)));
        calls.add(new Refused("alike(0, 0, 1, 1, 1)", OUTSIDE, y -> y.alike(0, 0, 1, 1, 1)));
        calls.add(new Refused("ofMachine(2, 0)", UNKNOWN, y -> y.ofMachine(2, 0)));
        calls.add(new Refused("ofMachine(0, 6)", OUTSIDE, y -> y.ofMachine(0, 6)));
        calls.add(new Refused("oneWay(2, 0, 0)", UNKNOWN, y -> y.oneWay(2, 0, 0)));
        calls.add(new Refused("oneWay(0, 5, 0)", UNKNOWN, y -> y.oneWay(0, 5, 0)));
        calls.add(new Refused("oneWay(0, 0, 6)", OUTSIDE, y -> y.oneWay(0, 0, 6)));
        calls.add(new Refused("taken(2, 0)", UNKNOWN, y -> y.taken(2, 0)));
        calls.add(new Refused("taken(0, 25)", OUTSIDE, y -> y.taken(0, 25)));
        calls.add(new Refused("first(4)", UNKNOWN, y -> y.first(4)));
        calls.add(new Refused("turned(2, 0)", UNKNOWN, y -> y.turned(2, 0)));
        calls.add(new Refused("turned(0, 7)", OUTSIDE, y -> y.turned(0, 7)));
        return calls;
    }

    private static List<Refused> refusedChanges() {
        List<Refused> calls = new ArrayList<>();
        calls.add(new Refused("feed(-1)", OUTSIDE, y -> y.feed(-1)));
        calls.add(new Refused("feed(256)", OUTSIDE, y -> y.feed(256)));
        calls.add(new Refused("machine(-1)", UNKNOWN, y -> y.machine(-1)));
        calls.add(new Refused("machine(2)", UNKNOWN, y -> y.machine(2)));
        calls.add(new Refused("move(2, 0, 0, 0, 0)", UNKNOWN, y -> y.move(2, 0, 0, 0, 0)));
        calls.add(new Refused("move(0, 2, 0, 0, 0)", UNKNOWN, y -> y.move(0, 2, 0, 0, 0)));
        calls.add(new Refused("move(0, 0, 4, 0, 0)", UNKNOWN, y -> y.move(0, 0, 4, 0, 0)));
        calls.add(new Refused("move(0, 0, 0, 2, 0)", UNKNOWN, y -> y.move(0, 0, 0, 2, 0)));
        calls.add(new Refused("move(0, 0, 0, 0, 2)", OUTSIDE, y -> y.move(0, 0, 0, 0, 2)));
        calls.add(new Refused("move(0, 0, 0, 0, -1)", OUTSIDE, y -> y.move(0, 0, 0, 0, -1)));
        calls.add(new Refused("none(2, 0, 0)", UNKNOWN, y -> y.none(2, 0, 0)));
        calls.add(new Refused("none(0, 2, 0)", UNKNOWN, y -> y.none(0, 2, 0)));
        calls.add(new Refused("none(0, 0, 4)", UNKNOWN, y -> y.none(0, 0, 4)));
        calls.add(new Refused("none(0, 1, 2)", NOT, y -> y.none(0, 1, 2)));
        calls.add(new Refused("states(2, 1)", UNKNOWN, y -> y.states(2, 1)));
        calls.add(new Refused("states(0, 0)", OUTSIDE, y -> y.states(0, 0)));
        calls.add(new Refused("states(0, 5)", OUTSIDE, y -> y.states(0, 5)));
        calls.add(new Refused("drift(2, 1)", UNKNOWN, y -> y.drift(2, 1)));
        calls.add(new Refused("drift(0, 0)", OUTSIDE, y -> y.drift(0, 0)));
        calls.add(new Refused("drift(0, 1000000)", OUTSIDE, y -> y.drift(0, 1000000)));
        calls.add(new Refused("moveOf(0, 2, 0)", UNKNOWN, y -> y.moveOf(0, 2, 0)));
        calls.add(new Refused("keep(-1)", UNKNOWN, y -> y.keep(-1)));
        calls.add(new Refused("keep(2)", UNKNOWN, y -> y.keep(2)));
        calls.add(new Refused("goBack(-1)", UNKNOWN, y -> y.goBack(-1)));
        calls.add(new Refused("goBack(2)", UNKNOWN, y -> y.goBack(2)));
        return calls;
    }

    private void lastOfAllCalls() {
        sentence("What it is", "An object is used for at most 512 calls after it has been made");
        for (int i = 0; i < 511; i++) {
            x.swap();
        }
        due("the 512th call", x.undo(), 7);
    }
}
