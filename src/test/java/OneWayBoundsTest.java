/** The boundary cases of part 3 of "Terms" and of promises 20 to 26, a test for each sentence. */
public final class OneWayBoundsTest extends Bench {
    private static final String PART = "Terms, 3";
    /** No machine has a greater one-way machine: all were tried, NOTES.md says how. */
    private static final String GREATEST =
        "q4;m0a3r;m0b0r;m0(1r;m0)0l;m1a1l;m1b2l;m1(1l;m1)1l;m2a3l;m2b1l;m2(0r;m2)3l;m3a0r;m3b3r;m3(3l;m3)2l;";
    /** The first word that the first of them alone takes has 24 letters. */
    private static final String[] FAR = {
        "q4;m0a1r;m0b1r;m0(3r;m1a2l;m1b2r;m1)2l;m2a0l;m2b3r;m2(3r;m2)1l;m3b0r;m3(2l;m3)3r;",
        "q4;m0a3r;m0b2r;m0(2r;m0)0r;m1a0r;m1b1l;m1(3r;m1)3l;m2a0r;m2b3r;m2(1l;m2)3l;m3a1l;m3b0r;m3(3r;m3)0r;"};
    /** The first word that the first of them alone takes has 25 letters: aaaaaaaaaabaaaaaaaaaaabaa. */
    private static final String[] TOO_FAR = {
        "q4;m0a3r;m0b0l;m0(0r;m0)1l;m1a0r;m1b1l;m1(3l;m1)0l;m2a1r;m2b1r;m2(1r;m2)3l;m3a2r;m3b1l;m3(1l;m3)2r;",
        "q4;m0a1r;m0b3r;m0(3r;m0)0l;m1a3r;m1b2l;m1(3l;m1)1l;m2a2l;m2b3l;m2(0r;m2)0l;m3a0r;m3b1r;m3(1l;m3)0r;"};
    private static final String TOO_FAR_WORD = "aaaaaaaaaabaaaaaaaaaaabaa";
    /** The same with 27 letters; the letters behind the 25th are b, which must not be taken for a new word. */
    private static final String[] FARTHEST = {
        "q4;m0b3r;m0a3r;m0(3r;m0)3r;m1b2r;m1a1l;m1(1r;m1)0l;m2b0r;m2a0l;m2(1l;m3b1r;m3a0l;m3(0l;m3)0l;",
        "q4;m0b2r;m0a1r;m0(2r;m0)2l;m1b0r;m1a2r;m1(3l;m1)1r;m2b1r;m2a3l;m2(2l;m2)2r;m3b3l;m3a1r;m3(1r;m3)0l;"};
    private static final String FARTHEST_WORD = "bbbbbbbbbbbabbbbbbbbbbbabbb";

    private OneWayBoundsTest() {
        super("OneWayBoundsTest");
    }

    public static void main(String[] args) {
        OneWayBoundsTest t = new OneWayBoundsTest();
        t.firstNever();
        t.backNever();
        t.numbering();
        t.greatest();
        t.good();
        t.least();
        t.takenLengths();
        t.shortestFirst();
        t.rules();
        t.wordsAsNumbers();
        t.longWords();
        t.noWord();
        t.turnedWords();
        t.images();
        t.promise20();
        t.promise21();
        t.promise22();
        t.promise23();
        t.promise24();
        t.promise25();
        t.promise26();
        t.end();
    }

    // ---- part 3: one-way

    private void firstNever() {
        sentence(PART, "FIRST: the STATE in which it goes off to the right for the first time, from STATE 0 at the LEFT END (NONE never)");
        due("stuck at the left end", x.oneWay(0, 0, 3), NONE);
        tell(0, "q2;m0(1l;m1(1r;");
        due("off to the left", x.oneWay(0, 0, 3), NONE);
        due("state 1 is not where it begins", x.oneWay(0, 0, 5), 1);
        tell(0, "q2;m0(1r;m1b1l;m1(1r;m1a0r;");
        due("off at once", x.oneWay(0, 0, 3), 1);
        due("off behind a", x.oneWay(0, x.oneWay(0, 0, 0), 3), 0);
        due("for ever at b", x.oneWay(0, x.oneWay(0, 0, 1), 3), NONE);
        tell(0, "q4;m0(0r;m0a1l;m1(2r;m2a3l;m3(3r;m3a0r;");
        due("the last state at a goes off", x.oneWay(0, x.oneWay(0, 0, 0), 3), 0);
        due("stuck at b", x.oneWay(0, x.oneWay(0, 0, 1), 3), NONE);
        tell(0, "q4;m0(0r;m0a1l;m1(1r;m1a2l;m2(2r;m2a3l;m3(3r;m3a0r;");
        due("in every state at a", x.oneWay(0, x.oneWay(0, 0, 0), 3), 0);
        x.move(0, 3, 0, 3, 0);
        due("for ever then", x.oneWay(0, x.oneWay(0, 0, 0), 3), NONE);
    }

    private void backNever() {
        sentence(PART, "for each STATE in which one comes back to the last sign from the right: "
                + "the STATE in which one goes off to the right again (NONE never)");
        tell(0, "q4;m0(3r;m1(0l;m3(2r;");
        int[] atTheLeftEnd = {3, NONE, NONE, 2};
        for (int s = 0; s < 4; s++) {
            due("the left end is the last sign, state " + s, x.oneWay(0, 0, 4 + s), atTheLeftEnd[s]);
        }
        tell(0, "q4;m0(0r;m0a1l;m1(2r;m2a3l;m3(3r;m3a0r;m1a1l;");
        int behind = x.oneWay(0, 0, 0);
        int[] atA = {0, 0, 0, 0};
        for (int s = 0; s < 4; s++) {
            due("back at a, state " + s, x.oneWay(0, behind, 4 + s), atA[s]);
        }
        x.move(0, 3, 0, 0, 0);
        behind = x.oneWay(0, 0, 0);
        for (int s = 0; s < 4; s++) {
            due("for ever at a, state " + s, x.oneWay(0, behind, 4 + s), NONE);
        }
    }

    private void numbering() {
        sentence(PART, "Numbered as they are found: that of no letters, then for each, rising, with a, with b behind");
        tell(0, EVEN);
        due("no letters", x.oneWay(0, 0, 3), 0);
        due("with a", x.oneWay(0, 0, 0), 1);
        due("with b", x.oneWay(0, 0, 1), 2);
        due("with aa", x.oneWay(0, 1, 0), 3);
        due("with ab", x.oneWay(0, 1, 1), 4);
        due("with ba, found already", x.oneWay(0, 2, 0), 1);
        due("states", x.ofMachine(0, 2), 5);
        tell(0, GREATEST);
        int found = 1;
        for (int s = 0; s < 45; s++) {
            for (int letter = 0; letter < 2; letter++) {
                int to = x.oneWay(0, s, letter);
                due("from " + s + " one that was found or the next", to > found ? NONE : 1, 1);
                found = Math.max(found, to + 1);
            }
        }
        due("all are found", found, 45);
    }

    private void greatest() {
        sentence(PART, "150 at most");
        tell(0, GREATEST);
        tell(1, GREATEST);
        due("states", x.ofMachine(0, 2), 45);
        due("the last one", x.oneWay(0, 44, 2) >= 0 ? 1 : 0, 1);
        due("none behind it", x.oneWay(0, 45, 0), UNKNOWN);
        due("none behind it", x.oneWay(0, 149, 0), UNKNOWN);
        due("none behind it", x.oneWay(0, 150, 0), UNKNOWN);
        due("both are not too many", x.told(4), 1);
        due("both are not too many", x.first(3), NONE);
    }

    private void good() {
        sentence(PART, "GOOD: a one that TAKES the WORD that ends there.");
        due("none", x.oneWay(0, 0, 2), 0);
        tell(0, "q2;m0(1r;m1)0r;");
        due("no letters", x.oneWay(0, 0, 2), 1);
        due("a", x.oneWay(0, x.oneWay(0, 0, 0), 2), 0);
        tell(0, "q4;m0(0r;m0)1l;m1(2r;m2)3l;m3(3r;m3)0r;");
        due("back to the left end twice", x.oneWay(0, 0, 2), 1);
        x.move(0, 3, 3, 0, 0);
        due("for ever", x.oneWay(0, 0, 2), 0);
        x.none(0, 3, 3);
        due("stuck at the right end", x.oneWay(0, 0, 2), 0);
        x.move(0, 3, 2, 3, 0);
        due("off at the left end", x.oneWay(0, 0, 2), 0);
    }

    private void least() {
        sentence(PART, "LEAST: how many are unlike (two are alike, if the same WORDS behind make them GOOD).");
        due("none is good", x.ofMachine(0, 3), 1);
        tell(0, "q2;m0(0r;m0a1r;m0b0r;m1a1r;m1b0r;m0)0r;m1)0r;");
        due("states of one-way", x.ofMachine(0, 2), 3);
        due("all are good", x.ofMachine(0, 3), 1);
        x.none(0, 1, 3);
        due("some are good", x.ofMachine(0, 3), 2);
        // Seed 230269 makes a machine of which no two states of one-way are alike.
        x.states(0, 4);
        x.drift(0, 230269);
        due("six", x.ofMachine(0, 2), 6);
        due("all unlike", x.ofMachine(0, 3), 6);
        tell(0, "q4;m0(0r;m0a1r;m1a2r;m2a3r;m3a0r;m0b0r;m1b1r;m2b2r;m3b3r;m3)0r;");
        due("told apart by three letters alone", x.ofMachine(0, 3), 4);
    }

    // ---- part 3: words

    private void takenLengths() {
        sentence(PART, "TAKEN of a length (0 .. 24): how many WORDS of it are TAKEN");
        due("none of 0", x.taken(0, 0), 0);
        due("none of 24", x.taken(0, 24), 0);
        tell(0, ALL);
        for (int length = 0; length <= 24; length++) {
            due("all of " + length, x.taken(0, length), 1 << length);
        }
        tell(0, "q1;m0(0r;m0a0r;m0)0r;");
        for (int length = 0; length <= 24; length++) {
            due("one of " + length, x.taken(0, length), 1);
        }
        tell(0, "q1;m0(0r;m0)0r;");
        due("that without letters", x.taken(0, 0), 1);
        due("no other", x.taken(0, 1), 0);
        due("length 25", x.taken(0, 25), OUTSIDE);
        due("length -1", x.taken(0, -1), OUTSIDE);
    }

    private void shortestFirst() {
        sentence(PART, "the FIRST WORD: the shortest, of like ones the first (a ahead of b)");
        tell(0, "q2;m0(0r;m0a1r;m0b1r;m1)0r;");
        due("a, b", x.ofMachine(0, 4), 0b10);
        x.none(0, 0, 0);
        due("b alone", x.ofMachine(0, 4), 0b11);
        tell(0, "q3;m0(0r;m0a1r;m0b2r;m1a2r;m1b1r;m2)0r;");
        due("b ahead of aa", x.ofMachine(0, 4), 0b11);
        tell(0, "q3;m0(0r;m0a1r;m0b1r;m1a2r;m1b2r;m2)0r;");
        due("aa ahead of ab, ba, bb", x.ofMachine(0, 4), 0b100);
        x.none(0, 1, 0);
        due("ab ahead of bb", x.ofMachine(0, 4), 0b101);
        x.move(0, 1, 0, 2, 1);
        x.none(0, 0, 0);
        due("ba ahead of bb", x.ofMachine(0, 4), 0b110);
        due("first not taken", x.ofMachine(0, 5), 1);
    }

    private void rules() {
        sentence(PART, "RULE of two MACHINES: 0 both, 1 either, 2 the first alone, 3 just one: the FIRST WORD for which it is so.");
        String none = "";
        dueRules(none, none, NONE, NONE, NONE, NONE);
        dueRules(ALL, none, NONE, 1, 1, 1);
        dueRules(none, ALL, NONE, 1, NONE, 1);
        dueRules(ALL, ALL, 1, 1, NONE, NONE);
        dueRules(ALL, HAS_B, 0b11, 1, 1, 1);
        dueRules(HAS_B, ALL, 0b11, 1, NONE, 1);
        dueRules(EVEN, HAS_B, 0b11, 1, 1, 1);
        dueRules(HAS_B, EVEN, 0b11, 1, 0b101, 1);
    }

    private void dueRules(String zero, String one, int... words) {
        tell(0, zero);
        tell(1, one);
        for (int rule = 0; rule < 4; rule++) {
            due("first(" + rule + ") of '" + zero + "', '" + one + "'", x.first(rule), words[rule]);
        }
    }

    private void wordsAsNumbers() {
        sentence(PART, "WORDS are told as numbers: 1, then for each letter twice as much, and 1 for b (the WORD without letters: 1)");
        due("no letters", x.told(1), 1);
        int[] told = {2, 5, 11, 22, 45};
        String letters = "abbab";
        for (int i = 0; i < 5; i++) {
            x.letter(letters.charAt(i));
            due("letters " + (i + 1), x.told(1), told[i]);
        }
        x.word((1 << 25) - 1);
        due("24 times b", x.told(1), 33554431);
        tell(0, ALL);
        due("the first word has no letters", x.ofMachine(0, 4), 1);
        due("the first word has no letters", x.first(1), 1);
    }

    private void longWords() {
        sentence(PART, "FIRST WORDS that are longer than 24 letters: 0");
        tell(0, FAR[0]);
        tell(1, FAR[1]);
        due("24 letters", x.first(2), 33538043);
        due("24 letters", x.word(33538043), 24);
        due("the first alone takes it", x.run(0, 0) - x.run(1, 0), 1);
        dueTooFar(TOO_FAR, TOO_FAR_WORD, 25);
        dueTooFar(FARTHEST, FARTHEST_WORD, 27);
    }

    private void dueTooFar(String[] pair, String word, int letters) {
        tell(0, pair[0]);
        tell(1, pair[1]);
        due(letters + " letters", x.first(2), 0);
        due("they do not take the same words", x.told(4), 0);
        due("letters of " + word, word.length(), letters);
        due("the first takes it", Oracle.takes((Oracle.Mach) Oracle.read(pair[0])[0], word) ? 1 : 0, 1);
        due("the other does not", Oracle.takes((Oracle.Mach) Oracle.read(pair[1])[0], word) ? 1 : 0, 0);
    }

    private void noWord() {
        sentence(PART, "NONE: there is none.");
        due("none is taken", x.ofMachine(0, 4), NONE);
        due("the first that is not", x.ofMachine(0, 5), 1);
        tell(0, ALL);
        due("the first that is taken", x.ofMachine(0, 4), 1);
        due("all are taken", x.ofMachine(0, 5), NONE);
        due("none by both", x.first(0), NONE);
    }

    private void turnedWords() {
        sentence(PART, "TURNED: a WORD read backwards is TAKEN: by length, how many of it are TAKEN both so and as they are.");
        tell(0, "q2;m0(0r;m0a1r;m1a1r;m1b1r;m1)0r;");
        int[] both = {0, 1, 1, 2, 4, 8, 16};
        for (int length = 0; length <= 6; length++) {
            due("begin and end with a, " + length, x.turned(0, length), both[length]);
        }
        tell(0, "q3;m0(0r;m0a1r;m1b2r;m2)0r;");
        due("ab alone, not ba", x.turned(0, 2), 0);
        tell(0, ALL);
        due("no letters", x.turned(0, 0), 1);
        due("all of six", x.turned(0, 6), 64);
    }

    private void images() {
        sentence(PART, "IMAGES 0, 1 keep both MACHINES.");
        tell(0, EVEN);
        tell(1, ALL);
        due("image 1", x.keep(1), 1);
        x.swap();
        due("image 0", x.keep(0), 1);
        x.states(0, 4);
        x.states(1, 3);
        x.goBack(1);
        dueMoves(0, 3, 1, 1, 1, 1, 3, NONE, NONE);
        dueMoves(1, 1, 1, 1, 1);
        x.goBack(0);
        dueMoves(0, 1, 1, 1, 1);
        dueMoves(1, 3, 1, 1, 1, 1, 3, NONE, NONE);
        for (int i : new int[] {-1, 2, LOW, HIGH}) {
            due("keep(" + i + ")", x.keep(i), UNKNOWN);
            due("goBack(" + i + ")", x.goBack(i), UNKNOWN);
        }
    }

    // ---- the promises

    private void promise20() {
        sentence("Promise 20", "Of a MACHINE: what = 0 STATES, 1 MOVES, 2 STATES of ONE-WAY, 3 LEAST, "
                + "4 FIRST WORD that is TAKEN, 5 FIRST WORD that is not (NONE).");
        int[] bare = {1, 0, 1, 1, NONE, 1};
        int[] all = {1, 4, 1, 1, 1, NONE};
        tell(0, ALL);
        for (int what = 0; what < 6; what++) {
            due("without moves, " + what, x.ofMachine(1, what), bare[what]);
            due("every word, " + what, x.ofMachine(0, what), all[what]);
        }
        tell(0, WHOLE);
        due("most states", x.ofMachine(0, 0), 4);
        due("most moves", x.ofMachine(0, 1), 16);
        sentence("Promise 20", "UNKNOWN, OUTSIDE");
        for (int what : new int[] {-1, 6, LOW, HIGH}) {
            due("ofMachine(0, " + what + ")", x.ofMachine(0, what), OUTSIDE);
            due("ofMachine(2, " + what + ")", x.ofMachine(2, what), UNKNOWN);
        }
        due("ofMachine(-1, 0)", x.ofMachine(-1, 0), UNKNOWN);
    }

    private void promise21() {
        sentence("Promise 21", "4 on: the STATE for STATE what less 4 (NONE).");
        for (int q = 1; q <= 4; q++) {
            x.states(0, q);
            x.move(0, q - 1, 2, q - 1, 1);
            for (int s = 0; s < q; s++) {
                due("of " + q + " states, " + s, x.oneWay(0, 0, 4 + s), s == q - 1 ? s : NONE);
            }
            due("of " + q + " states, " + q, x.oneWay(0, 0, 4 + q), OUTSIDE);
        }
        sentence("Promise 21", "UNKNOWN (the MACHINE), FULL, then UNKNOWN (no such STATE), OUTSIDE.");
        tell(0, EVEN);
        due("the last state", x.oneWay(0, 4, 0), 3);
        for (int s : new int[] {-1, 5, 149, 150, LOW, HIGH}) {
            due("state " + s, x.oneWay(0, s, 0), UNKNOWN);
            due("state " + s + ", nothing", x.oneWay(0, s, -1), UNKNOWN);
            due("machine 2, state " + s, x.oneWay(2, s, 0), UNKNOWN);
        }
        for (int what : new int[] {-1, 6, LOW, HIGH}) {
            due("what " + what, x.oneWay(0, 4, what), OUTSIDE);
        }
    }

    private void promise22() {
        sentence("Promise 22", "TAKEN of a length. UNKNOWN, OUTSIDE");
        tell(1, ALL);
        due("length 0", x.taken(1, 0), 1);
        due("length 24", x.taken(1, 24), 16777216);
        for (int length : new int[] {-1, 25, LOW, HIGH}) {
            due("length " + length, x.taken(1, length), OUTSIDE);
            due("machine 2, length " + length, x.taken(2, length), UNKNOWN);
        }
    }

    private void promise23() {
        sentence("Promise 23", "RULE of MACHINE 0 and 1: the FIRST WORD; NONE. UNKNOWN (the RULE)");
        for (int rule = 0; rule < 4; rule++) {
            due("rule " + rule, x.first(rule), NONE);
        }
        for (int rule : new int[] {-1, 4, LOW, HIGH}) {
            due("rule " + rule, x.first(rule), UNKNOWN);
        }
        tell(0, "q1;m0(0r;m0)0r;");
        due("the first alone is machine 0", x.first(2), 1);
        x.swap();
        due("machine 1 alone", x.first(2), NONE);
    }

    private void promise24() {
        sentence("Promise 24", "TURNED: how many WORDS of a length (0 .. 6) are TAKEN as they are and read backwards. UNKNOWN, OUTSIDE.");
        tell(1, EVEN);
        for (int length = 0; length <= 6; length++) {
            due("length " + length, x.turned(1, length), length == 0 ? 1 : 1 << (length - 1));
        }
        for (int length : new int[] {-1, 7, LOW, HIGH}) {
            due("length " + length, x.turned(1, length), OUTSIDE);
            due("machine 2, length " + length, x.turned(2, length), UNKNOWN);
        }
    }

    private void promise25() {
        sentence("Promise 25", "IMAGE i keeps both MACHINES (nothing can be undone then): 1. UNKNOWN.");
        due("of a new object", x.keep(0), 1);
        for (int i = 0; i < 8; i++) {
            x.swap();
        }
        due("unknown", x.keep(2), UNKNOWN);
        due("as it was", x.told(3), 8);
        due("kept", x.keep(1), 1);
        due("nothing can be undone", x.told(3), 0);
        due("nothing can be undone", x.undo(), NOT);
        x.states(0, 4);
        due("what comes then can be", x.undo(), 0);
        x.states(0, 3);
        due("kept once more", x.keep(0), 1);
        x.states(0, 2);
        x.goBack(0);
        due("the latest is kept", x.ofMachine(0, 0), 3);
        x.goBack(1);
        due("the other image stays", x.ofMachine(0, 0), 1);
    }

    private void promise26() {
        sentence("Promise 26", "They are as it kept them (nothing can be undone then): 1.");
        tell(0, EVEN);
        x.keep(0);
        x.states(0, 4);
        x.states(1, 4);
        x.word(6);
        feedAll("q3;");
        due("back", x.goBack(0), 1);
        dueMoves(0, 3, 1, 1, 1, 1, 3, NONE, NONE);
        dueMoves(1, NONE, NONE, NONE, NONE);
        due("nothing can be undone", x.told(3), 0);
        due("nothing can be undone", x.undo(), NOT);
        due("the word stays", x.told(1), 6);
        due("the text stays", x.machine(1), 3);
        due("a change does not reach the image", x.goBack(0), 1);
        due("a change does not reach the image", x.ofMachine(1, 0), 1);
        sentence("Promise 26", "UNKNOWN, NOT: it was not kept.");
        due("image 0", x.goBack(0), NOT);
        due("image 1", x.goBack(1), NOT);
        x.keep(1);
        due("image 0 still", x.goBack(0), NOT);
        due("image 1 now", x.goBack(1), 1);
        due("image 2", x.goBack(2), UNKNOWN);
        due("image -1", x.goBack(-1), UNKNOWN);
    }
}
