/** The boundary cases of part 2 of "Terms" and of promises 12 to 19, a test for each sentence. */
public final class WordBoundsTest extends Bench {
    private static final String PART = "Terms, 2";
    /** Goes through every state at every place of this word: 104 steps, the last one from the right end to the right. */
    private static final String LONGEST =
        "q4;m0a0r;m0b2l;m0(0r;m0)2l;m1a3r;m1b0r;m1(1r;m1)0r;m2a2r;m2b1l;m2(3r;m2)1l;m3a1r;m3b3l;m3(2r;m3)3l;";
    private static final String LONGEST_WORD = "babababababababababababa";
    /** Goes through every state at every letter of this word, from state 0 at the first one: 96 steps, then off it. */
    private static final String LONGEST_PIECE = "q4;m0a1r;m0b2l;m1a2r;m1b1l;m2a3r;m2b3l;m3a0r;m3b0r;";
    private static final String LONGEST_PIECE_WORD = "abababababababababababab";

    private WordBoundsTest() {
        super("WordBoundsTest");
    }

    public static void main(String[] args) {
        WordBoundsTest t = new WordBoundsTest();
        t.wordLimits();
        t.beginning();
        t.taking();
        t.stuck();
        t.off();
        t.forEver();
        t.steps();
        t.gaps();
        t.crossings();
        t.notEmptyPieces();
        t.comingFromASide();
        t.never();
        t.toldTables();
        t.piecesTogether();
        t.promise12();
        t.promise13();
        t.promise14();
        t.promise15();
        t.promise16();
        t.promise17();
        t.promise18();
        t.promise19();
        t.end();
    }

    // ---- part 2: the run

    private void wordLimits() {
        sentence(PART, "A WORD of letters a, b (0 .. 24) stands between the ENDS.");
        tell(0, ALL);
        due("no letters", x.told(0), 0);
        dueRun(0, 1, 0, 2, 0, 1, 0);
        for (int i = 1; i <= 24; i++) {
            due("letter " + i, x.letter(97 + i % 2), i);
            dueRun(0, 1, 0, i + 2, 0, i + 1, 0);
        }
        due("letter 25", x.letter(97), FULL);
        dueRun(0, 1, 0, 26, 0, 25, 0);
    }

    private void beginning() {
        sentence(PART, "RUN: it begins in STATE 0 at the LEFT END; each MOVE is a STEP.");
        tell(0, "q2;m1(1r;m0a0r;m0b0r;m0)0r;m1)1r;");
        dueRun(0, 0, 1, 0, 0, 0, NONE);
        x.move(0, 0, 2, 1, 1);
        dueRun(0, 1, 0, 2, 1, 1, 0);
    }

    private void taking() {
        sentence(PART, "It TAKES the WORD, if it MOVES to the right from the RIGHT END.");
        tell(0, "q2;m0(0r;m0a0r;m0)1r;");
        dueRun(0, 1, 0, 2, 1, 1, 0);
        setWord("aa");
        dueRun(0, 1, 0, 4, 1, 3, 0);
        x.move(0, 0, 3, 1, 0);
        dueRun(0, 0, 1, 4, 1, 3, 2);
        x.move(0, 1, 0, 1, 1);
        x.move(0, 1, 3, 0, 1);
        dueRun(0, 1, 0, 6, 0, 3, 2);
    }

    private void stuck() {
        sentence(PART, "It does not, if there is no MOVE (STUCK)");
        setWord("ab");
        dueRun(0, 0, 1, 0, 0, 0, NONE);
        tell(0, "q2;m0(1r;");
        dueRun(0, 0, 1, 1, 1, 1, 0);
        tell(0, "q2;m0(1r;m1a0r;");
        dueRun(0, 0, 1, 2, 0, 2, 0);
        tell(0, "q2;m0(1r;m1a0r;m0b1r;");
        dueRun(0, 0, 1, 3, 1, 3, 0);
        tell(0, "q2;m0(1r;m1a1l;");
        dueRun(0, 0, 1, 2, 1, 1, 0);
        tell(0, "q2;m0(0r;m0a0r;m0b0r;m0)1l;m1a1l;m1b1l;");
        dueRun(0, 0, 1, 6, 1, 3, 0);
    }

    private void off() {
        sentence(PART, "if it MOVES to the left from the LEFT END (OFF)");
        tell(0, "q3;m0(2l;");
        dueRun(0, 0, 2, 1, 2, 0, NONE);
        tell(0, "q3;m0(0r;m0a1l;m1(2l;");
        setWord("a");
        dueRun(0, 0, 2, 3, 2, 1, 0);
        due("the gap is crossed twice", x.crossed(0, 0, NONE), 2);
        tell(0, "q3;m0(0r;m0a0r;m0)1l;m1a1l;m1(2l;");
        dueRun(0, 0, 2, 5, 2, 2, 0);
    }

    private void forEver() {
        sentence(PART, "if it comes to a STATE at a place where it was in that STATE (FOR EVER).");
        tell(0, "q2;m0(0r;m0)0l;");
        dueRun(0, 0, 3, 2, 0, 1, 0);
        tell(0, "q2;m0(0r;m0)1l;m1(0r;");
        dueRun(0, 0, 3, 3, 0, 1, 0);
        tell(0, "q2;m0(0r;m0)1l;m1(1r;m1)1r;");
        due("another state at the same place", x.run(0, 1), 0);
        tell(0, LONGEST);
        setWord(LONGEST_WORD);
        for (int to = 0; to < 4; to++) {
            x.move(0, 1, 3, to, 0);
            dueRun(0, 0, 3, 104, to, 25, 24);
        }
    }

    private void steps() {
        sentence(PART, "STEPS: MOVES till then (till it comes to such a place for the second time; that one, too).");
        tell(0, "q2;m0(0r;m0a1l;m1(0r;");
        setWord("ab");
        dueRun(0, 0, 3, 3, 0, 1, 0);
        due("that one crosses, too", x.crossed(0, 0, NONE), 3);
        due("into this state", x.crossed(0, 0, 2), 0);
        tell(0, LONGEST);
        setWord(LONGEST_WORD);
        dueRun(0, 1, 0, 104, 0, 25, 0);
        x.none(0, 1, 3);
        dueRun(0, 0, 1, 103, 1, 25, 0);
    }

    // ---- part 2: gaps and pieces

    private void gaps() {
        sentence(PART, "GAPS 0 .. (letters of the WORD): GAP g is behind g letters (0: behind the LEFT END).");
        x.states(0, 4);
        x.move(0, 0, 2, 1, 1);
        x.move(0, 1, 0, 2, 1);
        x.move(0, 2, 1, 3, 1);
        x.move(0, 3, 3, 0, 1);
        setWord("ab");
        for (int gap = 0; gap <= 2; gap++) {
            due("gap " + gap, x.crossed(0, gap, 0), gap + 1);
        }
        due("gap 3", x.crossed(0, 3, 0), OUTSIDE);
        due("gap -1", x.crossed(0, -1, 0), OUTSIDE);
        setWord("");
        due("gap 0 between the ends", x.crossed(0, 0, 0), 1);
        due("gap 1", x.crossed(0, 1, 0), OUTSIDE);
        x.word(1 << 24);
        due("gap 24", x.crossed(0, 24, 0), NONE);
        due("gap 25", x.crossed(0, 25, 0), OUTSIDE);
    }

    private void crossings() {
        sentence(PART, "CROSSED: each STEP over a GAP, with the STATE into which it came; the k-th.");
        tell(0, LONGEST);
        setWord(LONGEST_WORD);
        x.move(0, 1, 3, 0, 0);
        int[] last = {0, 2, 2, 1, 3, 3, 1, 0};
        due("the last gap", x.crossed(0, 24, NONE), last.length);
        for (int k = 0; k < last.length; k++) {
            due("the last gap, " + k, x.crossed(0, 24, k), last[k]);
        }
        due("not so often", x.crossed(0, 24, last.length), NONE);
        int[] none = {0, 2, 3, 3, 2, 1, 1};
        due("gap 0", x.crossed(0, 0, NONE), none.length);
        for (int k = 0; k < none.length; k++) {
            due("gap 0, " + k, x.crossed(0, 0, k), none[k]);
        }
        due("not so often", x.crossed(0, 0, none.length), NONE);
    }

    private void notEmptyPieces() {
        sentence(PART, "TABLE of a piece of letters a, b (not empty, without ENDS)");
        tell(0, HAS_B);
        setWord("ab");
        due("all", x.table(0, 0, 2, 0, 0), 1);
        due("the first", x.table(0, 0, 1, 0, 0), 1);
        due("the last", x.table(0, 1, 2, 1, 0), 5);
        for (int i = 0; i <= 2; i++) {
            due("none at " + i, x.table(0, i, i, 0, 0), OUTSIDE);
        }
        due("with the left end", x.table(0, -1, 1, 0, 0), OUTSIDE);
        due("with the right end", x.table(0, 1, 3, 0, 0), OUTSIDE);
        setWord("");
        due("of no letters", x.table(0, 0, 0, 0, 0), OUTSIDE);
    }

    private void comingFromASide() {
        sentence(PART, "comes to it from the left (to its first letter), from the right (to its last one)");
        tell(0, "q4;m0a1l;m0b2r;m1a1l;m1b1r;m2a2r;m2b2l;m3a3l;m3b3l;");
        setWord("ab");
        due("from the left: a", x.table(0, 0, 2, 0, 0), 2);
        due("from the right: b", x.table(0, 0, 2, 0, 1), 5);
        due("one letter from the left", x.table(0, 0, 1, 0, 0), 2);
        due("one letter from the right", x.table(0, 0, 1, 0, 1), 2);
        due("through it to the left", x.table(0, 0, 2, 3, 1), 6);
    }

    private void never() {
        sentence(PART, "or never (STUCK in it, FOR EVER in it)");
        tell(0, "q3;m0a0r;m0b1l;m1a0r;m2a2r;");
        setWord("ab");
        due("for ever in it", x.table(0, 0, 2, 0, 0), NONE);
        due("stuck at the last letter", x.table(0, 0, 2, 2, 0), NONE);
        due("stuck at once", x.table(0, 0, 2, 1, 1), NONE);
        due("off in less", x.table(0, 0, 1, 0, 0), 1);
        tell(0, LONGEST_PIECE);
        setWord(LONGEST_PIECE_WORD);
        due("off after every state at every letter", x.table(0, 0, 24, 0, 0), 1);
        due("the other states", x.table(0, 0, 24, 1, 0), 1);
    }

    private void toldTables() {
        sentence(PART, "TOLD as: 2 times the STATE and (0 to the left, 1 to the right); NONE never.");
        setWord("a");
        x.states(0, 4);
        for (int to = 0; to < 4; to++) {
            for (int side = 0; side < 2; side++) {
                x.move(0, 3, 0, to, side);
                due("from the left", x.table(0, 0, 1, 3, 0), 2 * to + side);
                due("from the right", x.table(0, 0, 1, 3, 1), 2 * to + side);
            }
        }
        due("never", x.table(0, 0, 1, 2, 0), NONE);
    }

    /** The tables of the two parts, put together here, are those of the whole, wherever the word is parted. */
    private void piecesTogether() {
        sentence(PART, "Of two pieces, one behind the other: by their TABLES alone.");
        x.states(0, 4);
        for (int seed = 1; seed <= 40; seed++) {
            x.drift(0, seed);
            x.word((1 << 24) + seed * 345678 % (1 << 24));
            for (int cut = 1; cut < 24; cut += seed % 2 == 0 ? 22 : 5) {
                for (int i = 0; i < 8; i++) {
                    due("seed " + seed + ", parted at " + cut, x.table(0, 0, 24, i / 2, i % 2), together(cut, i / 2, i % 2));
                }
            }
        }
    }

    private int together(int cut, int state, int side) {
        int came = side;
        int now = state;
        boolean first = side == 0;
        for (int i = 0; i < 100; i++) {
            int move = first ? x.table(0, 0, cut, now, came) : x.table(0, cut, 24, now, came);
            if (move == NONE || move % 2 == (first ? 0 : 1)) {
                return move;
            }
            now = move / 2;
            came = first ? 0 : 1;
            first = !first;
        }
        return NONE;
    }

    // ---- the promises

    private void promise12() {
        sentence("Promise 12", "A letter (97, 98) comes behind THE WORD: how many. OUTSIDE");
        due("97", x.letter(97), 1);
        due("98", x.letter(98), 2);
        for (int letter : new int[] {96, 99, 0, 1, -1, 353, LOW, HIGH}) {
            due("letter(" + letter + ")", x.letter(letter), OUTSIDE);
        }
        due("ab", x.told(1), 0b101);
        sentence("Promise 12", "FULL (24).");
        for (int i = 1; i <= 24; i++) {
            due("letter " + i, x.letter(98), i);
        }
        due("a behind 24", x.letter(97), FULL);
        due("b behind 24", x.letter(98), FULL);
        due("as it was", x.told(1), (1 << 25) - 1);
        x.word(1 << 23);
        due("the 24th behind word()", x.letter(98), 24);
        due("the 25th behind word()", x.letter(98), FULL);
        x.wipe();
        due("the first behind wipe()", x.letter(98), 1);
    }

    private void promise13() {
        sentence("Promise 13", "THE WORD becomes the one that is told so (1 on; 24 letters at most): how many letters. OUTSIDE.");
        due("least", x.word(1), 0);
        for (int letters = 1; letters <= 24; letters++) {
            due("the first of its length", x.word(1 << letters), letters);
            due("told", x.told(1), 1 << letters);
            due("the last of its length", x.word((2 << letters) - 1), letters);
            due("told", x.told(1), (2 << letters) - 1);
        }
        for (int number : new int[] {0, -1, 1 << 25, (1 << 25) + 1, LOW, HIGH}) {
            due("word(" + number + ")", x.word(number), OUTSIDE);
        }
        due("as it was", x.told(1), (1 << 25) - 1);
        x.word(2);
        tell(0, "q1;m0(0r;m0a0r;m0)0r;");
        due("0 is a", x.run(0, 0), 1);
        x.word(3);
        due("1 is b", x.run(0, 0), 0);
    }

    private void promise14() {
        sentence("Promise 14", "THE WORD has no letters: how many it had.");
        due("none", x.wipe(), 0);
        x.word((1 << 25) - 1);
        due("all", x.wipe(), 24);
        due("none any more", x.wipe(), 0);
        due("told as", x.told(1), 1);
    }

    private void promise15() {
        sentence("Promise 15", "0 letters of THE WORD, 1 what it is told as, 2 letters of THE TEXT, 3 how many can be undone");
        for (int what : new int[] {0, 2, 3}) {
            due("told(" + what + ") at first", x.told(what), 0);
        }
        due("the word without letters", x.told(1), 1);
        x.word((1 << 25) - 1);
        feedAll(" ".repeat(240));
        for (int i = 0; i < 9; i++) {
            x.swap();
        }
        int[] most = {24, (1 << 25) - 1, 240, 8};
        for (int what = 0; what < 4; what++) {
            due("told(" + what + ") at most", x.told(what), most[what]);
        }
        sentence("Promise 15", "4 1 both MACHINES TAKE the same WORDS, 0 not");
        due("no words", x.told(4), 1);
        tell(0, ALL);
        due("all and none", x.told(4), 0);
        tell(1, HAS_B);
        due("unlike at the word without letters", x.told(4), 0);
        x.swap();
        due("unlike, the other way", x.told(4), 0);
        tell(1, "q3;m0(0r;m0a0r;m0b1r;m1a1r;m1b1r;m1)0r;");
        due("the same by another way", x.told(4), 1);
        sentence("Promise 15", "OUTSIDE.");
        for (int what : new int[] {-1, 5, LOW, HIGH}) {
            due("told(" + what + ")", x.told(what), OUTSIDE);
        }
    }

    private void promise16() {
        sentence("Promise 16", "4 how many GAPS are CROSSED, 5 the GAP that is CROSSED most (of like ones the least; NONE: none)");
        setWord("aab");
        dueRun(0, 0, 1, 0, 0, 0, NONE);
        tell(0, ALL);
        dueRun(0, 1, 0, 5, 0, 4, 0);
        tell(0, HAS_B);
        dueRun(0, 1, 0, 7, 0, 4, 3);
        setWord("aba");
        dueRun(0, 1, 0, 9, 0, 4, 2);
        tell(0, "q1;m0(0l;");
        dueRun(0, 0, 2, 1, 0, 0, NONE);
        sentence("Promise 16", "UNKNOWN, OUTSIDE.");
        for (int what : new int[] {-1, 6, LOW, HIGH}) {
            due("run(0, " + what + ")", x.run(0, what), OUTSIDE);
            due("run(2, " + what + ")", x.run(2, what), UNKNOWN);
        }
        due("run(-1, 0)", x.run(-1, 0), UNKNOWN);
        due("run(1, 5)", x.run(1, 5), NONE);
    }

    private void promise17() {
        sentence("Promise 17", "The k-th STATE with which a GAP is CROSSED; NONE: not so often. (k NONE: how often.)");
        tell(1, HAS_B);
        setWord("ba");
        int[] into = {0, 1, 2};
        due("how often", x.crossed(1, 1, NONE), 3);
        for (int k = 0; k < 3; k++) {
            due("crossed " + k, x.crossed(1, 1, k), into[k]);
        }
        due("crossed 3", x.crossed(1, 1, 3), NONE);
        due("the highest k", x.crossed(1, 1, HIGH), NONE);
        due("never, how often", x.crossed(0, 1, NONE), 0);
        due("never", x.crossed(0, 1, 0), NONE);
        sentence("Promise 17", "UNKNOWN, OUTSIDE: no such GAP, k below NONE.");
        setWord("ba");
        for (int gap : new int[] {-1, 3, LOW, HIGH}) {
            due("gap " + gap, x.crossed(0, gap, 0), OUTSIDE);
        }
        for (int k : new int[] {-2, LOW}) {
            due("k " + k, x.crossed(0, 2, k), OUTSIDE);
        }
        due("machine 2", x.crossed(2, 0, 0), UNKNOWN);
    }

    private void promise18() {
        sentence("Promise 18", "TABLE of letters i .. j (i less than j; j not in it) of THE WORD");
        tell(0, "q1;m0a0r;m0b0l;");
        setWord("aab");
        due("j is not in it", x.table(0, 0, 2, 0, 0), 1);
        due("with b", x.table(0, 0, 3, 0, 0), NONE);
        due("b alone", x.table(0, 2, 3, 0, 0), 0);
        due("i is in it", x.table(0, 1, 2, 0, 1), 1);
        sentence("Promise 18", "UNKNOWN, OUTSIDE (side; letters that there are not, none).");
        setWord("aab");
        for (int side : new int[] {-1, 2, LOW, HIGH}) {
            due("side " + side, x.table(0, 0, 1, 0, side), OUTSIDE);
        }
        dueNoPieces();
        x.word(1 << 24);
        due("24 letters", x.table(0, 23, 24, 0, 1), NONE);
        due("letter 24", x.table(0, 24, 25, 0, 1), OUTSIDE);
        due("up to letter 25", x.table(0, 0, 25, 0, 1), OUTSIDE);
        due("no state", x.table(0, 0, 1, 1, 0), UNKNOWN);
        due("no machine", x.table(-1, 0, 1, 0, 0), UNKNOWN);
    }

    /** Pieces of a word of three letters that are none. */
    private static final int[][] NO_PIECES = {{0, 0}, {3, 3}, {2, 1}, {3, 0}, {-1, 1}, {-1, 0}, {0, 4}, {2, 4}, {3, 4}, {4, 5}, {0, -1},
        {LOW, 1}, {0, HIGH}, {LOW, HIGH}, {HIGH, LOW}};

    private void dueNoPieces() {
        for (int[] piece : NO_PIECES) {
            due("letters " + piece[0] + " .. " + piece[1], x.table(0, piece[0], piece[1], 0, 0), OUTSIDE);
        }
    }

    private void promise19() {
        sentence("Promise 19", "Whether letters i .. j of THE WORD and a .. b have the same TABLE (1, 0).");
        tell(0, "q4;m0a0r;m0b0r;m1a1r;m1b1r;m2a2r;m2b2r;m3a3r;m3b3r;");
        setWord("aba");
        due("a, b", x.alike(0, 0, 1, 1, 2), 1);
        x.move(0, 3, 1, 3, 0);
        due("unlike in a side of the last state", x.alike(0, 0, 1, 1, 2), 0);
        x.move(0, 3, 1, 2, 1);
        due("unlike in the last state", x.alike(0, 0, 1, 1, 2), 0);
        x.none(0, 3, 1);
        due("never is unlike", x.alike(0, 0, 1, 1, 2), 0);
        x.none(0, 3, 0);
        due("never and never", x.alike(0, 0, 1, 1, 2), 1);
        due("a piece and itself", x.alike(0, 0, 3, 0, 3), 1);
        // From the left a and aa are alike here, from the right they are not.
        tell(1, "q2;m0a0r;m1a0l;");
        x.wipe();
        setWord("aaa");
        due("unlike from the right alone", x.alike(1, 0, 1, 0, 2), 0);
        due("from the left alike", x.table(1, 0, 1, 0, 0) - x.table(1, 0, 2, 0, 0), 0);
        due("from the left alike", x.table(1, 0, 1, 1, 0) - x.table(1, 0, 2, 1, 0), 0);
        // b and ab have the same last letter, and who comes to it from the right goes off at once.
        tell(1, "q1;m0a0l;m0b0r;");
        setWord("bab");
        due("unlike from the left alone", x.alike(1, 0, 1, 1, 3), 0);
        due("from the right alike", x.table(1, 0, 1, 0, 1) - x.table(1, 1, 3, 0, 1), 0);
        tell(1, "q2;m0a0r;m0b0l;m1a1r;m1b1r;");
        due("unlike in state 0 alone", x.alike(1, 0, 1, 1, 2), 0);
        sentence("Promise 19", "UNKNOWN, OUTSIDE.");
        setWord("aab");
        for (int[] piece : NO_PIECES) {
            due("i .. j", x.alike(0, piece[0], piece[1], 0, 1), OUTSIDE);
            due("a .. b", x.alike(0, 0, 1, piece[0], piece[1]), OUTSIDE);
            due("no machine", x.alike(2, piece[0], piece[1], 0, 1), UNKNOWN);
        }
        due("the last letters", x.alike(0, 2, 3, 2, 3), 1);
    }
}
