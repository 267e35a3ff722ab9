/** Each promise of the document by hand: ordinary calls, the edges that it names, and wrong calls. */
public final class PromisesTest {
    private static final int NONE = -1, UNKNOWN = -1000000001, OUTSIDE = -1000000002, NOT = -1000000003, FULL = -1000000004;
    private static final int LOW = Integer.MIN_VALUE, HIGH = Integer.MAX_VALUE;
    /** Takes the words with an even number of a, going to the right alone. */
    private static final String EVEN = "q2;m0(0r;m0a1r;m0b0r;m1a0r;m1b1r;m0)0r;";
    /** Goes to the right end and back to the last b but no further; takes the words that have a b. */
    private static final String HAS_B = "q3;m0(0r;m0a0r;m0b0r;m0)1l;m1a1l;m1b2r;m2a2r;m2b2r;m2)0r;";
    /** Takes every word. */
    private static final String ALL = "q1;m0(0r;m0a0r;m0b0r;m0)0r;";
    /** Two machines of which the first word that both take has 23 letters. */
    private static final String[] FAR_BOTH = {
        "q4;m0a2r;m0b0r;m0(2r;m0)2r;m1a3r;m1b1r;m1(0l;m1)0l;m2a1r;m2b2r;m2(1l;m2)1l;m3a0r;m3b3r;m3(1r;",
        "q4;m0a2l;m0b0r;m0(0r;m1a2r;m1b3l;m1(3l;m1)2l;m2a0r;m2b1l;m2(1l;m2)2r;m3a1r;m3b3r;m3(2r;m3)0l;"};
    /** Two machines of which the first word that the first alone takes has 24 letters. */
    private static final String[] FAR_ALONE = {
        "q4;m0a1r;m0b1r;m0(3r;m1a2l;m1b2r;m1)2l;m2a0l;m2b3r;m2(3r;m2)1l;m3b0r;m3(2l;m3)3r;",
        "q4;m0a3r;m0b2r;m0(2r;m0)0r;m1a0r;m1b1l;m1(3r;m1)3l;m2a0r;m2b3r;m2(1l;m2)3l;m3a1l;m3b0r;m3(3r;m3)0r;"};
    /** Pairs of which the first word that the first alone takes is too long to be told. */
    private static final String[][] TOO_FAR = {
        {"q4;m0a1r;m0b2l;m0(3r;m0)2l;m1a2r;m1b2r;m1(2r;m1)3r;m2a3r;m2)2l;m3a0r;m3b1l;m3(3l;m3)2l;",
            "q4;m0a3r;m0b1l;m0(0r;m0)3l;m1a1l;m1b0l;m1(2r;m2a0r;m2b2r;m2(3l;m2)3r;m3a2r;m3b3r;m3(1r;m3)3r;"},
        {"q4;m0a1r;m0b1r;m0(3r;m0)1r;m1a0l;m1b2r;m1(2l;m1)2l;m2b3r;m2)1l;m3b0r;m3(3r;m3)0l;",
            "q4;m0a3r;m0b2r;m0(2r;m0)2r;m1a0l;m1b1l;m1(3r;m1)1r;m2a0r;m2b3r;m2(1l;m2)1r;m3a1l;m3b0r;m3)0l;"},
        {"q4;m0b1r;m0(1r;m1a0l;m1b3r;m1(3l;m1)0l;m2b0r;m2(0r;m3a2r;m3b2r;m3(1r;m3)2r;",
            "q4;m0a0r;m0b3r;m0(0r;m0)3r;m1a2l;m1b0r;m1)1r;m2a0r;m2b2l;m2(1r;m2)1r;m3a3r;m3b1r;m3(1r;m3)0r;"}};

    private final Check check = new Check("PromisesTest");
    private TwoWays x = new TwoWays();

    private PromisesTest() {
    }

    public static void main(String[] args) {
        PromisesTest t = new PromisesTest();
        t.promise1();
        t.promise2();
        t.promise3();
        t.promise4();
        t.promise5();
        t.promise6();
        t.promise7();
        t.promise8();
        t.promise9();
        t.promise10();
        t.promise11();
        t.promise12();
        t.promise13();
        t.promise14();
        t.promise15();
        t.promise16();
        t.promise17();
        t.promise18();
        t.promise19();
        t.promise20();
        t.promise21();
        t.promise22();
        t.promise23();
        t.promise24();
        t.promise25();
        t.promise26();
        t.check.end();
    }

    private void due(String call, int got, int want) {
        check.due(call, got, want);
    }

    private int tell(int m, String text) {
        feedAll(text);
        return x.machine(m);
    }

    private void feedAll(String text) {
        for (char c : text.toCharArray()) {
            x.feed(c);
        }
    }

    private void setWord(String letters) {
        x.wipe();
        for (char c : letters.toCharArray()) {
            x.letter(c);
        }
    }

    /** Each move of a machine is the one that is due, told as a row by states and signs. */
    private void dueMoves(String what, int m, int... moves) {
        for (int i = 0; i < moves.length; i++) {
            due(what + ": moveOf(" + m + ", " + i / 4 + ", " + i % 4 + ")", x.moveOf(m, i / 4, i % 4), moves[i]);
        }
    }

    private void promise1() {
        x = new TwoWays();
        for (int m = 0; m < 2; m++) {
            due("1 states", x.ofMachine(m, 0), 1);
            due("1 moves", x.ofMachine(m, 1), 0);
            dueMoves("1", m, NONE, NONE, NONE, NONE);
        }
        due("1 letters", x.told(0), 0);
        due("1 word", x.told(1), 1);
        due("1 text", x.told(2), 0);
        due("1 undo", x.told(3), 0);
        due("1 same words", x.told(4), 1);
        due("1 fault", x.fault(), NONE);
        due("1 image 0", x.goBack(0), NOT);
        due("1 image 1", x.goBack(1), NOT);
        due("1 undo()", x.undo(), NOT);
        due("1 constants", TwoWays.NONE, NONE);
        due("1 constants", TwoWays.UNKNOWN, UNKNOWN);
        due("1 constants", TwoWays.OUTSIDE, OUTSIDE);
        due("1 constants", TwoWays.NOT, NOT);
        due("1 constants", TwoWays.FULL, FULL);
    }

    private void promise2() {
        x = new TwoWays();
        due("2 least", x.feed(0), 1);
        due("2 most", x.feed(255), 2);
        for (int bad : new int[] {-1, 256, LOW, HIGH}) {
            due("2 feed(" + bad + ")", x.feed(bad), OUTSIDE);
        }
        due("2 unchanged", x.told(2), 2);
        for (int i = 3; i <= 240; i++) {
            due("2 letter " + i, x.feed(32), i);
        }
        due("2 full", x.feed(32), FULL);
        due("2 outside ahead of full", x.feed(256), OUTSIDE);
        due("2 letters", x.told(2), 240);
        due("2 fault in a full text", x.machine(0), -11);
        due("2 empty again", x.feed(1), 1);
    }

    private void promise3() {
        x = new TwoWays();
        due("3 EVEN", tell(0, EVEN), 2);
        dueMoves("3", 0, 3, 1, 1, 1, 1, 3, NONE, NONE);
        due("3 the other is as it was", x.ofMachine(1, 0), 1);
        due("3 text is empty", x.told(2), 0);
        due("3 fault", tell(0, "q3;x"), -11);
        due("3 text is empty with a fault, too", x.told(2), 0);
        due("3 as it was", x.ofMachine(0, 0), 2);
        dueMoves("3 as it was", 0, 3, 1, 1, 1, 1, 3, NONE, NONE);
        feedAll("q4;");
        due("3 no machine", x.machine(2), UNKNOWN);
        due("3 no machine", x.machine(-1), UNKNOWN);
        due("3 text stays", x.told(2), 3);
        due("3 machine 1", x.machine(1), 4);
        due("3 empty text", x.machine(0), 1);
        dueMoves("3 empty text", 0, NONE, NONE, NONE, NONE);
        tell(0, EVEN);
        due("3 blanks alone", tell(0, "   "), 1);
        due("3 no moves", x.ofMachine(0, 1), 0);
        StringBuilder all = new StringBuilder(" q 4 ; ");
        for (int s = 3; s >= 0; s--) {
            for (int c = 3; c >= 0; c--) {
                all.append("m" + s + " " + "ab()".charAt(c) + (3 - s) + "lr".charAt(c % 2) + "; ");
            }
        }
        due("3 all moves", tell(1, all.toString()), 4);
        dueMoves("3 all moves", 1, 6, 7, 6, 7, 4, 5, 4, 5, 2, 3, 2, 3, 0, 1, 0, 1);
    }

    private void dueFault(String text, int number, int place) {
        x = new TwoWays();
        due("4 machine of '" + text + "'", tell(0, text), -10 - number);
        due("4 fault of '" + text + "'", x.fault(), place);
    }

    private void promise4() {
        dueFault("x", 1, 0);
        dueFault("  m0a0r;", 1, 2);
        dueFault("Q1;", 1, 0);
        dueFault("\u0000", 1, 0);
        dueFault("q", 1, 1);
        dueFault("q  ", 1, 3);
        dueFault("qq", 1, 1);
        dueFault("q;", 1, 1);
        dueFault("qa;", 1, 1);
        dueFault("q0;", 2, 1);
        dueFault("q5;", 2, 1);
        dueFault("q9", 2, 1);
        dueFault("q2", 1, 2);
        dueFault("q12;", 1, 2);
        dueFault("q2q", 1, 2);
        dueFault("q2;q", 3, 3);
        dueFault("q2; q2;", 3, 4);
        dueFault("q2;m0a0r;q", 3, 9);
        dueFault("q2;a", 1, 3);
        dueFault("q2;;", 1, 3);
        dueFault("q2;m", 1, 4);
        dueFault("q2;m2", 2, 4);
        dueFault("q2;m9a", 2, 4);
        dueFault("q2;mq", 1, 4);
        dueFault("q2;ma0", 1, 4);
        dueFault("q2;m0", 1, 5);
        dueFault("q2;m0c0r;", 1, 5);
        dueFault("q2;m0q", 1, 5);
        dueFault("q2;m000r;", 1, 5);
        dueFault("q2;m0a", 1, 6);
        dueFault("q2;m0ar", 1, 6);
        dueFault("q2;m0a2r;", 2, 6);
        dueFault("q2;m0a1", 1, 7);
        dueFault("q2;m0a1x;", 1, 7);
        dueFault("q2;m0a1R;", 1, 7);
        dueFault("q2;m0a1r", 1, 8);
        dueFault("q2;m0a1rr", 1, 8);
        dueFault("q2;m0a1r;m0a", 4, 11);
        dueFault("q2;m0(1r; m1(0l; m1 ( 0l;", 4, 20);
        dueFault("q2;m0a1r;m0b7r;", 2, 12);
        x = new TwoWays();
        due("4 none yet", x.fault(), NONE);
        tell(1, "q7;");
        due("4 fault", x.fault(), 1);
        x.machine(5);
        due("4 a refused one does not count", x.fault(), 1);
        x.move(0, 0, 0, 0, 0);
        due("4 stays", x.fault(), 1);
        tell(1, "q1;");
        due("4 no fault", x.fault(), NONE);
    }

    private void promise5() {
        x = new TwoWays();
        x.states(1, 4);
        due("5 was none", x.move(1, 3, 3, 2, 0), NONE);
        due("5 was", x.move(1, 3, 3, 0, 1), 4);
        due("5 was", x.move(1, 3, 3, 3, 1), 1);
        due("5 now", x.moveOf(1, 3, 3), 7);
        due("5 moves", x.ofMachine(1, 1), 1);
        int[][] unknown = {{2, 0, 0, 0, 0}, {-1, 0, 0, 0, 0}, {0, 1, 0, 0, 0}, {0, -1, 0, 0, 0}, {1, 4, 0, 0, 0},
            {0, 0, 4, 0, 0}, {0, 0, -1, 0, 0}, {0, 0, 0, 1, 0}, {1, 0, 0, 4, 0}, {1, 0, 0, -1, 0}, {1, 0, 0, 4, 2},
            {HIGH, HIGH, HIGH, HIGH, HIGH}, {LOW, LOW, LOW, LOW, LOW}};
        for (int[] a : unknown) {
            due("5 unknown", x.move(a[0], a[1], a[2], a[3], a[4]), UNKNOWN);
        }
        due("5 side", x.move(1, 0, 0, 0, 2), OUTSIDE);
        due("5 side", x.move(1, 0, 0, 0, -1), OUTSIDE);
        due("5 refused changes nothing", x.ofMachine(1, 1), 1);
        due("5 refused changes nothing", x.told(3), 4);
    }

    private void promise6() {
        x = new TwoWays();
        tell(0, EVEN);
        due("6 was", x.none(0, 1, 0), 1);
        due("6 now", x.moveOf(0, 1, 0), NONE);
        due("6 moves", x.ofMachine(0, 1), 5);
        due("6 there is none", x.none(0, 1, 0), NOT);
        due("6 there is none", x.none(0, 1, 3), NOT);
        due("6 no machine", x.none(2, 0, 0), UNKNOWN);
        due("6 no state", x.none(0, 2, 0), UNKNOWN);
        due("6 no state", x.none(0, -1, 0), UNKNOWN);
        due("6 no sign", x.none(0, 0, 4), UNKNOWN);
        due("6 no sign", x.none(0, 0, -1), UNKNOWN);
        due("6 refused changes nothing", x.told(3), 2);
    }

    private void promise7() {
        x = new TwoWays();
        tell(0, EVEN);
        due("7 there were", x.states(0, 2), 2);
        due("7 without moves", x.ofMachine(0, 1), 0);
        due("7 there were", x.states(0, 4), 2);
        due("7 there were", x.states(0, 1), 4);
        due("7 now", x.ofMachine(0, 0), 1);
        due("7 the other one", x.states(1, 3), 1);
        due("7 no machine", x.states(2, 0), UNKNOWN);
        for (int bad : new int[] {0, 5, -1, LOW, HIGH}) {
            due("7 states(1, " + bad + ")", x.states(1, bad), OUTSIDE);
        }
        due("7 refused changes nothing", x.ofMachine(1, 0), 3);
    }

    private void promise8() {
        x = new TwoWays();
        x.states(0, 3);
        x.move(0, 0, 0, 2, 1);
        long lot = 4711;
        int count = 0;
        int[] moves = new int[12];
        for (int i = 0; i < 12; i++) {
            lot = lot * 16807 % 2147483647;
            moves[i] = NONE;
            if (lot % 5 != 0) {
                lot = lot * 16807 % 2147483647;
                int to = (int) (lot % 3);
                lot = lot * 16807 % 2147483647;
                moves[i] = 2 * to + (int) (lot % 2);
                count++;
            }
        }
        due("8 moves", x.drift(0, 4711), count);
        dueMoves("8", 0, moves);
        due("8 states stay", x.ofMachine(0, 0), 3);
        due("8 the other one stays", x.ofMachine(1, 1), 0);
        due("8 least seed", x.drift(1, 1), x.ofMachine(1, 1));
        due("8 most seed", x.drift(1, 999999), x.ofMachine(1, 1));
        due("8 no machine", x.drift(2, 0), UNKNOWN);
        for (int bad : new int[] {0, 1000000, -1, LOW, HIGH}) {
            due("8 drift(0, " + bad + ")", x.drift(0, bad), OUTSIDE);
        }
        dueMoves("8 refused changes nothing", 0, moves);
    }

    private void promise9() {
        x = new TwoWays();
        due("9 alike", x.swap(), 0);
        tell(0, EVEN);
        due("9 unlike", x.swap(), 1);
        due("9 places", x.ofMachine(0, 0), 1);
        dueMoves("9 places", 1, 3, 1, 1, 1, 1, 3, NONE, NONE);
        tell(0, EVEN);
        due("9 alike", x.swap(), 0);
        x.none(0, 0, 3);
        due("9 unlike in a move", x.swap(), 1);
        x = new TwoWays();
        x.states(1, 2);
        due("9 unlike in states", x.swap(), 1);
        due("9 places", x.ofMachine(0, 0), 2);
        due("9 can be undone", x.told(3), 2);
    }

    private void promise10() {
        x = new TwoWays();
        due("10 none", x.undo(), NOT);
        tell(0, EVEN);
        x.move(0, 0, 0, 0, 0);
        x.none(0, 0, 0);
        x.states(0, 3);
        x.drift(0, 7);
        x.swap();
        due("10 kept", x.told(3), 6);
        due("10 swap", x.undo(), 5);
        due("10 swap", x.ofMachine(0, 0), 3);
        due("10 drift", x.undo(), 4);
        due("10 drift", x.ofMachine(0, 1), 0);
        due("10 states", x.undo(), 3);
        dueMoves("10 states", 0, NONE, 1, 1, 1, 1, 3, NONE, NONE);
        due("10 none()", x.undo(), 2);
        dueMoves("10 none()", 0, 0, 1, 1, 1, 1, 3, NONE, NONE);
        due("10 move()", x.undo(), 1);
        dueMoves("10 move()", 0, 3, 1, 1, 1, 1, 3, NONE, NONE);
        due("10 machine()", x.undo(), 0);
        due("10 machine()", x.ofMachine(0, 0), 1);
        due("10 none more", x.undo(), NOT);
        for (int i = 1; i <= 12; i++) {
            x.drift(1, i);
            due("10 at most 8", x.told(3), Math.min(i, 8));
        }
        TwoWays y = new TwoWays();
        y.drift(1, 4);
        for (int i = 7; i >= 0; i--) {
            due("10 more", x.undo(), i);
        }
        due("10 the oldest are lost", x.undo(), NOT);
        for (int c = 0; c < 4; c++) {
            due("10 as ahead of the eighth", x.moveOf(1, 0, c), y.moveOf(1, 0, c));
        }
        x.drift(2, 1);
        x.states(0, 9);
        x.none(0, 0, 9);
        due("10 refused ones do not count", x.told(3), 0);
        tell(0, "x");
        due("10 a fault is no refusal", x.told(3), 1);
        due("10 both are as ahead of it", x.undo(), 0);
        x.feed(65);
        x.letter(97);
        x.swap();
        x.undo();
        due("10 text and word stay", x.told(2) + x.told(0), 2);
    }

    private void promise11() {
        x = new TwoWays();
        tell(0, HAS_B);
        dueMoves("11", 0, 1, 1, 1, 2, 2, 5, NONE, NONE, 5, 5, NONE, 1);
        int[][] unknown = {{2, 0, 0}, {-1, 0, 0}, {0, 3, 0}, {0, -1, 0}, {1, 1, 0}, {0, 0, 4}, {0, 0, -1}, {LOW, HIGH, LOW}};
        for (int[] a : unknown) {
            due("11 unknown", x.moveOf(a[0], a[1], a[2]), UNKNOWN);
        }
    }

    private void promise12() {
        x = new TwoWays();
        due("12 a", x.letter(97), 1);
        due("12 b", x.letter(98), 2);
        due("12 told", x.told(1), 5);
        for (int bad : new int[] {96, 99, 0, 1, 65, LOW, HIGH}) {
            due("12 letter(" + bad + ")", x.letter(bad), OUTSIDE);
        }
        for (int i = 3; i <= 24; i++) {
            due("12 letter " + i, x.letter(98), i);
        }
        due("12 full", x.letter(97), FULL);
        due("12 outside ahead of full", x.letter(99), OUTSIDE);
        due("12 told", x.told(1), 0b1011111111111111111111111);
    }

    private void promise13() {
        x = new TwoWays();
        due("13 abb", x.word(0b1011), 3);
        due("13 told", x.told(1), 0b1011);
        due("13 none", x.word(1), 0);
        due("13 a", x.word(2), 1);
        due("13 a...", x.word(1 << 24), 24);
        due("13 told", x.told(1), 1 << 24);
        due("13 b...", x.word((1 << 25) - 1), 24);
        for (int bad : new int[] {0, -1, 1 << 25, LOW, HIGH}) {
            due("13 word(" + bad + ")", x.word(bad), OUTSIDE);
        }
        due("13 unchanged", x.told(1), (1 << 25) - 1);
        x.word(2);
        due("13 a letter behind", x.letter(98), 2);
        due("13 a letter behind", x.told(1), 5);
    }

    private void promise14() {
        x = new TwoWays();
        due("14 none", x.wipe(), 0);
        x.word(9);
        due("14 three", x.wipe(), 3);
        due("14 none", x.told(0), 0);
        due("14 none", x.told(1), 1);
    }

    private void promise15() {
        x = new TwoWays();
        x.word(0b110);
        feedAll("q1");
        x.swap();
        due("15 letters", x.told(0), 2);
        due("15 told as", x.told(1), 6);
        due("15 text", x.told(2), 2);
        due("15 undo", x.told(3), 1);
        due("15 same words", x.told(4), 1);
        x.machine(0);
        tell(0, EVEN);
        due("15 not the same", x.told(4), 0);
        tell(1, "q4;m0(2r;m2a3r;m2b2r;m3a2r;m3b3r;m2)3r;");
        due("15 the same by other states", x.told(4), 1);
        for (int bad : new int[] {5, -1, LOW, HIGH}) {
            due("15 told(" + bad + ")", x.told(bad), OUTSIDE);
        }
    }

    private void dueRun(String what, int m, int... answers) {
        for (int i = 0; i < 6; i++) {
            due("16 " + what + ": run(" + m + ", " + i + ")", x.run(m, i), answers[i]);
        }
    }

    private void promise16() {
        x = new TwoWays();
        dueRun("stuck at once", 0, 0, 1, 0, 0, 0, NONE);
        tell(0, HAS_B);
        setWord("abaa");
        dueRun("back and forth", 0, 1, 0, 12, 0, 5, 2);
        setWord("aa");
        dueRun("stuck at the left end", 0, 0, 1, 6, 1, 3, 0);
        setWord("");
        dueRun("no letters", 0, 0, 1, 2, 1, 1, 0);
        x.states(1, 3);
        x.move(1, 0, 2, 2, 0);
        dueRun("off", 1, 0, 2, 1, 2, 0, NONE);
        x.states(1, 2);
        x.move(1, 0, 2, 0, 1);
        x.move(1, 0, 0, 1, 0);
        x.move(1, 1, 2, 1, 1);
        x.move(1, 1, 0, 0, 0);
        setWord("ab");
        dueRun("for ever", 1, 0, 3, 4, 0, 1, 0);
        x.move(1, 1, 0, 1, 1);
        dueRun("stuck at a letter", 1, 0, 1, 4, 1, 2, 0);
        x.states(1, 2);
        x.move(1, 0, 2, 0, 1);
        x.move(1, 0, 3, 1, 1);
        setWord("");
        dueRun("the state into which it goes off", 1, 1, 0, 2, 1, 1, 0);
        tell(1, ALL);
        x.word((1 << 25) - 1);
        dueRun("24 letters", 1, 1, 0, 26, 0, 25, 0);
        due("16 no machine", x.run(2, 9), UNKNOWN);
        due("16 no machine", x.run(-1, 0), UNKNOWN);
        for (int bad : new int[] {6, -1, LOW, HIGH}) {
            due("16 run(0, " + bad + ")", x.run(0, bad), OUTSIDE);
        }
    }

    private void promise17() {
        x = new TwoWays();
        tell(1, HAS_B);
        setWord("abaa");
        int[][] due = {{0}, {0}, {0, 1, 2}, {0, 1, 2}, {0, 1, 2}};
        for (int g = 0; g < due.length; g++) {
            due("17 how often", x.crossed(1, g, NONE), due[g].length);
            for (int k = 0; k <= due[g].length; k++) {
                due("17 crossed(1, " + g + ", " + k + ")", x.crossed(1, g, k), k < due[g].length ? due[g][k] : NONE);
            }
        }
        due("17 not so often", x.crossed(1, 0, HIGH), NONE);
        due("17 never", x.crossed(0, 4, NONE), 0);
        due("17 never", x.crossed(0, 4, 0), NONE);
        due("17 no machine", x.crossed(2, 9, 0), UNKNOWN);
        due("17 no gap", x.crossed(1, 5, 0), OUTSIDE);
        due("17 no gap", x.crossed(1, -1, 0), OUTSIDE);
        due("17 k", x.crossed(1, 0, -2), OUTSIDE);
        due("17 k", x.crossed(1, 0, LOW), OUTSIDE);
        x.wipe();
        due("17 the gap between the ends", x.crossed(1, 0, NONE), 2);
        due("17 the gap between the ends", x.crossed(1, 0, 1), 1);
        due("17 no gap", x.crossed(1, 1, 0), OUTSIDE);
    }

    private void promise18() {
        x = new TwoWays();
        tell(0, HAS_B);
        setWord("abaa");
        due("18 from the left", x.table(0, 0, 4, 0, 0), 1);
        due("18 turns at b", x.table(0, 0, 4, 1, 1), 5);
        due("18 turns at b", x.table(0, 1, 2, 1, 0), 5);
        due("18 goes back over a", x.table(0, 2, 4, 1, 1), 2);
        due("18 at once to the left", x.table(0, 0, 1, 1, 0), 2);
        x.none(0, 0, 1);
        due("18 stuck in it", x.table(0, 0, 4, 0, 0), NONE);
        x.move(0, 0, 1, 1, 0);
        x.move(0, 1, 0, 0, 1);
        due("18 for ever in it", x.table(0, 0, 4, 0, 0), NONE);
        due("18 the last letter alone", x.table(0, 3, 4, 0, 1), 1);
        due("18 no machine", x.table(2, 0, 4, 0, 0), UNKNOWN);
        due("18 no state", x.table(0, 0, 4, 3, 9), UNKNOWN);
        due("18 no state", x.table(1, 0, 4, 1, 0), UNKNOWN);
        int[][] outside = {{0, 4, 2}, {0, 4, -1}, {0, 5, 0}, {-1, 4, 0}, {2, 2, 0}, {3, 2, 0}, {4, 4, 0}, {4, 5, 0}, {LOW, HIGH, 0}};
        for (int[] a : outside) {
            due("18 outside", x.table(0, a[0], a[1], 0, a[2]), OUTSIDE);
        }
    }

    private void promise19() {
        x = new TwoWays();
        tell(0, EVEN);
        setWord("aabab");
        due("19 a, a", x.alike(0, 0, 1, 1, 2), 1);
        due("19 like from the left, not from the right", x.alike(0, 0, 2, 2, 3), 0);
        due("19 a, aab", x.alike(0, 1, 2, 0, 3), 0);
        due("19 a, ba", x.alike(0, 1, 2, 2, 4), 1);
        x.states(1, 2);
        x.move(1, 0, 0, 1, 1);
        x.move(1, 1, 0, 1, 1);
        x.move(1, 0, 1, 0, 1);
        x.move(1, 1, 1, 1, 1);
        due("19 a, aa by another machine", x.alike(1, 0, 1, 0, 2), 1);
        x.move(1, 1, 0, 1, 0);
        due("19 a, aa no more", x.alike(1, 0, 1, 0, 2), 0);
        due("19 the same", x.alike(1, 0, 5, 0, 5), 1);
        due("19 without moves", x.swap() * x.states(0, 1) * x.alike(0, 0, 1, 2, 4), 2);
        due("19 no machine", x.alike(2, 9, 0, 9, 0), UNKNOWN);
        int[][] outside = {{0, 0, 0, 1}, {0, 1, 1, 1}, {-1, 1, 0, 1}, {0, 1, -1, 1}, {0, 6, 0, 1}, {0, 1, 0, 6}, {2, 1, 0, 1}};
        for (int[] a : outside) {
            due("19 outside", x.alike(0, a[0], a[1], a[2], a[3]), OUTSIDE);
        }
    }

    private void dueOfMachine(String what, int... answers) {
        for (int i = 0; i < 6; i++) {
            due("20 " + what + ": ofMachine(0, " + i + ")", x.ofMachine(0, i), answers[i]);
        }
    }

    private void promise20() {
        x = new TwoWays();
        dueOfMachine("no moves", 1, 0, 1, 1, NONE, 1);
        tell(0, EVEN);
        dueOfMachine("EVEN", 2, 6, 5, 2, 1, 2);
        tell(0, HAS_B);
        dueOfMachine("HAS_B", 3, 9, 3, 2, 3, 1);
        tell(0, ALL);
        dueOfMachine("ALL", 1, 4, 1, 1, 1, NONE);
        tell(0, "q4;m0(0r;m0a1r;m1a2r;m2a3r;m3a3r;m0b0r;m1b1r;m2b2r;m3b3r;m3)0r;");
        due("20 three a", x.ofMachine(0, 3), 4);
        due("20 three a", x.ofMachine(0, 4), 0b1000);
        due("20 the other one", x.ofMachine(1, 1), 0);
        due("20 no machine", x.ofMachine(2, 9), UNKNOWN);
        due("20 no machine", x.ofMachine(-1, 0), UNKNOWN);
        for (int bad : new int[] {6, -1, LOW, HIGH}) {
            due("20 ofMachine(0, " + bad + ")", x.ofMachine(0, bad), OUTSIDE);
        }
        x.states(0, 2);
        due("20 after a change", x.ofMachine(0, 2), 1);
        x.undo();
        due("20 after undo", x.ofMachine(0, 3), 4);
        tell(0, "q4;m0a3r;m0b0r;m0(1r;m0)0l;m1a1l;m1b2l;m1(1l;m1)1l;m2a3l;m2b1l;m2(0r;m2)3l;m3a0r;m3b3r;m3(3l;m3)2l;");
        due("20 many", x.ofMachine(0, 2), 45);
    }

    private void promise21() {
        x = new TwoWays();
        tell(1, EVEN);
        int[][] rows = {{1, 2, 1, 0, 0, NONE}, {3, 4, 0, 1, 1, 0}, {1, 2, 1, 0, 0, 1}, {1, 2, 1, 0, 1, 0}, {3, 4, 0, 1, 0, 1}};
        for (int s = 0; s < 5; s++) {
            for (int what = 0; what < 6; what++) {
                due("21 oneWay(1, " + s + ", " + what + ")", x.oneWay(1, s, what), rows[s][what]);
            }
        }
        due("21 no machine", x.oneWay(2, 9, 9), UNKNOWN);
        due("21 no state", x.oneWay(1, 5, 9), UNKNOWN);
        due("21 no state", x.oneWay(1, -1, 0), UNKNOWN);
        for (int bad : new int[] {6, -1, LOW, HIGH}) {
            due("21 oneWay(1, 0, " + bad + ")", x.oneWay(1, 0, bad), OUTSIDE);
        }
        due("21 never", x.oneWay(0, 0, 3), NONE);
        due("21 never", x.oneWay(0, 0, 4), NONE);
        due("21 goes to itself", x.oneWay(0, 0, 1), 0);
        tell(0, "q2;m0(1r;m1(0r;m1a1l;m0a0r;m1b0l;m0b1l;");
        due("21 off by way of the left end", x.oneWay(0, x.oneWay(0, 0, 0), 3), 0);
        due("21 for ever", x.oneWay(0, x.oneWay(0, 0, 1), 3), NONE);
    }

    private void promise22() {
        x = new TwoWays();
        due("22 none", x.taken(0, 24), 0);
        tell(0, EVEN);
        for (int length = 0; length <= 24; length++) {
            due("22 EVEN, " + length, x.taken(0, length), length == 0 ? 1 : 1 << (length - 1));
        }
        tell(1, HAS_B);
        for (int length = 0; length <= 24; length++) {
            due("22 HAS_B, " + length, x.taken(1, length), (1 << length) - 1);
        }
        tell(1, ALL);
        due("22 ALL", x.taken(1, 24), 1 << 24);
        due("22 no machine", x.taken(2, 99), UNKNOWN);
        for (int bad : new int[] {25, -1, LOW, HIGH}) {
            due("22 taken(0, " + bad + ")", x.taken(0, bad), OUTSIDE);
        }
    }

    private void promise23() {
        x = new TwoWays();
        for (int rule = 0; rule < 4; rule++) {
            due("23 no words", x.first(rule), NONE);
        }
        tell(0, EVEN);
        tell(1, HAS_B);
        due("23 both", x.first(0), 0b11);
        due("23 either", x.first(1), 1);
        due("23 the first alone", x.first(2), 1);
        due("23 just one", x.first(3), 1);
        x.swap();
        due("23 the first alone", x.first(2), 0b101);
        tell(0, ALL);
        due("23 the first alone", x.first(2), 0b10);
        due("23 just one", x.first(3), 0b10);
        tell(1, ALL);
        due("23 the first alone", x.first(2), NONE);
        due("23 just one", x.first(3), NONE);
        due("23 both", x.first(0), 1);
        for (int bad : new int[] {4, -1, LOW, HIGH}) {
            due("23 first(" + bad + ")", x.first(bad), UNKNOWN);
        }
        farWords();
    }

    private void farWords() {
        tell(0, FAR_BOTH[0]);
        tell(1, FAR_BOTH[1]);
        due("23 a word of 23 letters", x.first(0), 15845148);
        x.word(15845148);
        due("23 both take it", x.run(0, 0) + x.run(1, 0), 2);
        tell(0, FAR_ALONE[0]);
        tell(1, FAR_ALONE[1]);
        due("23 a word of 24 letters", x.first(2), 33538043);
        due("23 has 24 letters", x.word(33538043), 24);
        due("23 the first alone takes it", x.run(0, 0) - x.run(1, 0), 1);
        for (String[] pair : TOO_FAR) {
            tell(0, pair[0]);
            tell(1, pair[1]);
            due("23 a longer word", x.first(2), 0);
            due("23 not the same words", x.told(4), 0);
        }
    }

    private void promise24() {
        x = new TwoWays();
        due("24 none", x.turned(0, 0), 0);
        tell(0, EVEN);
        for (int length = 0; length <= 6; length++) {
            due("24 EVEN, " + length, x.turned(0, length), length == 0 ? 1 : 1 << (length - 1));
        }
        tell(1, "q2;m0(0r;m0a1r;m1a1r;m1b1r;m1)0r;");
        int[] due = {0, 1, 1, 2, 4, 8, 16};
        for (int length = 0; length <= 6; length++) {
            due("24 begins and ends with a, " + length, x.turned(1, length), due[length]);
        }
        x.word(6);
        x.turned(1, 6);
        due("24 the word stays", x.told(1), 6);
        due("24 no machine", x.turned(2, 9), UNKNOWN);
        for (int bad : new int[] {7, -1, LOW, HIGH}) {
            due("24 turned(0, " + bad + ")", x.turned(0, bad), OUTSIDE);
        }
    }

    private void promise25() {
        x = new TwoWays();
        tell(0, EVEN);
        tell(1, ALL);
        for (int bad : new int[] {2, -1, LOW, HIGH}) {
            due("25 keep(" + bad + ")", x.keep(bad), UNKNOWN);
        }
        due("25 refused changes nothing", x.told(3), 2);
        due("25 keep", x.keep(1), 1);
        due("25 nothing can be undone", x.told(3), 0);
        due("25 nothing can be undone", x.undo(), NOT);
        dueMoves("25 they stay", 0, 3, 1, 1, 1, 1, 3, NONE, NONE);
        x.states(0, 3);
        due("25 a later change", x.told(3), 1);
        x.keep(0);
        x.states(0, 4);
        due("25 the latest", x.keep(0), 1);
        x.states(0, 1);
        x.goBack(0);
        due("25 the latest", x.ofMachine(0, 0), 4);
    }

    private void promise26() {
        x = new TwoWays();
        due("26 not kept", x.goBack(0), NOT);
        for (int bad : new int[] {2, -1, LOW, HIGH}) {
            due("26 goBack(" + bad + ")", x.goBack(bad), UNKNOWN);
        }
        tell(0, EVEN);
        tell(1, ALL);
        x.keep(0);
        x.swap();
        x.drift(0, 5);
        due("26 not kept", x.goBack(1), NOT);
        due("26 refused changes nothing", x.told(3), 2);
        x.word(6);
        due("26 back", x.goBack(0), 1);
        dueMoves("26 as kept", 0, 3, 1, 1, 1, 1, 3, NONE, NONE);
        dueMoves("26 as kept", 1, 1, 1, 1, 1);
        due("26 as kept", x.ofMachine(1, 0), 1);
        due("26 nothing can be undone", x.undo(), NOT);
        due("26 the word stays", x.told(1), 6);
        x.states(0, 4);
        due("26 once more", x.goBack(0), 1);
        due("26 once more", x.ofMachine(0, 0), 2);
    }
}
