/** What the tests of the boundaries share: an object for each sentence of the document, calls told as texts. */
class Bench {
    static final int NONE = -1, UNKNOWN = -1000000001, OUTSIDE = -1000000002, NOT = -1000000003, FULL = -1000000004;
    static final int LOW = Integer.MIN_VALUE, HIGH = Integer.MAX_VALUE;
    /** Takes the words with an even number of a, going to the right alone; its one-way machine has five states. */
    static final String EVEN = "q2;m0(0r;m0a1r;m0b0r;m1a0r;m1b1r;m0)0r;";
    /** Goes to the right end and back to the last b; takes the words that have a b. */
    static final String HAS_B = "q3;m0(0r;m0a0r;m0b0r;m0)1l;m1a1l;m1b2r;m2a2r;m2b2r;m2)0r;";
    /** Takes every word. */
    static final String ALL = "q1;m0(0r;m0a0r;m0b0r;m0)0r;";
    /** Has each of the sixteen moves that there can be. */
    static final String WHOLE = "q4;m0a0l;m0b0r;m0(1l;m0)1r;m1a2l;m1b2r;m1(3l;m1)3r;m2a3l;m2b3r;m2(2l;m2)2r;m3a1l;m3b1r;m3(0l;m3)0r;";

    TwoWays x = new TwoWays();
    private final Check check;
    private String place = "";
    private String words = "";
    private int sentences;

    Bench(String name) {
        check = new Check(name);
    }

    /** A new object for the sentence that is looked at next. */
    final void sentence(String where, String said) {
        place = where;
        words = said;
        sentences++;
        x = new TwoWays();
    }

    final void due(String call, int got, int want) {
        check.due(place + ", '" + words + "': " + call, got, want);
    }

    final void end() {
        System.out.println(sentences + " sentences were looked at");
        check.end();
    }

    final void feedAll(String text) {
        for (char c : text.toCharArray()) {
            x.feed(c);
        }
    }

    final int tell(int m, String text) {
        feedAll(text);
        return x.machine(m);
    }

    final void setWord(String letters) {
        x.wipe();
        for (char c : letters.toCharArray()) {
            x.letter(c);
        }
    }

    /** The text tells a machine of so many states. */
    final void dueStates(String text, int states) {
        due("machine of '" + text + "'", tell(0, text), states);
        due("fault of '" + text + "'", x.fault(), NONE);
    }

    /** The text has a fault; the machine is as it was. */
    final void dueFault(String text, int number, int letter) {
        tell(0, WHOLE);
        due("machine of '" + text + "'", tell(0, text), -10 - number);
        due("fault of '" + text + "'", x.fault(), letter);
        due("text behind '" + text + "'", x.told(2), 0);
        due("moves behind '" + text + "'", x.ofMachine(0, 1), 16);
    }

    /** Each move of a machine, told as a row by states and signs; the machine has just these states. */
    final void dueMoves(int m, int... moves) {
        due("states of " + m, x.ofMachine(m, 0), moves.length / 4);
        for (int i = 0; i < moves.length; i++) {
            due("moveOf(" + m + ", " + i / 4 + ", " + i % 4 + ")", x.moveOf(m, i / 4, i % 4), moves[i]);
        }
    }

    /** The answers of run() for what = 0, 1, .. */
    final void dueRun(int m, int... answers) {
        for (int what = 0; what < answers.length; what++) {
            due("run(" + m + ", " + what + ")", x.run(m, what), answers[what]);
        }
    }
}
