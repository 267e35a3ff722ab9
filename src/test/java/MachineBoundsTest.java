import java.util.ArrayDeque;

/** The boundary cases of part 1 of "Terms" and of promises 1 to 11, a test for each sentence. */
public final class MachineBoundsTest extends Bench {
    private static final String PART = "Terms, 1";
    private static final int[] NO_MACHINES = {-1, 2, 3, LOW, HIGH};

    private MachineBoundsTest() {
        super("MachineBoundsTest");
    }

    public static void main(String[] args) {
        MachineBoundsTest t = new MachineBoundsTest();
        t.machines();
        t.states();
        t.signs();
        t.sameState();
        t.sides();
        t.noneAtFirst();
        t.textLimit();
        t.sizeWord();
        t.eachOnce();
        t.oneFigure();
        t.signLetters();
        t.sideLetters();
        t.blanks();
        t.firstLetterWithAFault();
        t.faultAtTheEnd();
        t.leastFault();
        t.fault1();
        t.fault2();
        t.fault3();
        t.fault4();
        t.emptyText();
        t.lots();
        t.undone();
        t.promise1();
        t.promise2();
        t.promise3();
        t.promise4();
        t.promise5();
        t.promise6();
        t.promise7();
        t.promise8();
        t.promise9();
        t.promise10();
        t.promise11();
        t.end();
    }

    // ---- part 1

    private void machines() {
        sentence(PART, "MACHINES 0, 1");
        setWord("a");
        for (int m = 0; m < 2; m++) {
            due("states(" + m + ", 1)", x.states(m, 1), 1);
            due("ofMachine(" + m + ", 0)", x.ofMachine(m, 0), 1);
        }
        for (int m : NO_MACHINES) {
            due("machine(" + m + ")", x.machine(m), UNKNOWN);
            due("move(" + m + ", ..)", x.move(m, 0, 0, 0, 0), UNKNOWN);
            due("none(" + m + ", ..)", x.none(m, 0, 0), UNKNOWN);
            due("states(" + m + ", 1)", x.states(m, 1), UNKNOWN);
            due("drift(" + m + ", 1)", x.drift(m, 1), UNKNOWN);
            due("moveOf(" + m + ", ..)", x.moveOf(m, 0, 0), UNKNOWN);
            due("run(" + m + ", 0)", x.run(m, 0), UNKNOWN);
            due("crossed(" + m + ", ..)", x.crossed(m, 0, 0), UNKNOWN);
            due("table(" + m + ", ..)", x.table(m, 0, 1, 0, 0), UNKNOWN);
            due("alike(" + m + ", ..)", x.alike(m, 0, 1, 0, 1), UNKNOWN);
            due("ofMachine(" + m + ", 0)", x.ofMachine(m, 0), UNKNOWN);
            due("oneWay(" + m + ", ..)", x.oneWay(m, 0, 0), UNKNOWN);
            due("taken(" + m + ", 0)", x.taken(m, 0), UNKNOWN);
            due("turned(" + m + ", 0)", x.turned(m, 0), UNKNOWN);
        }
    }

    private void states() {
        sentence(PART, "STATES 0 .. Q less 1 (Q 1 .. 4; 1 at first)");
        setWord("a");
        dueLastState(1);
        for (int q = 1; q <= 4; q++) {
            x.states(0, q);
            dueLastState(q);
        }
        due("Q 5", x.states(0, 5), OUTSIDE);
        due("Q 0", x.states(0, 0), OUTSIDE);
    }

    /** The last state is there for every call, the one behind it and the one ahead of the first are not. */
    private void dueLastState(int q) {
        due("last state moves", x.move(0, q - 1, 0, q - 1, 1), NONE);
        due("move of last state", x.moveOf(0, q - 1, 0), 2 * (q - 1) + 1);
        due("table of last state", x.table(0, 0, 1, q - 1, 0), 2 * (q - 1) + 1);
        due("none of last state", x.none(0, q - 1, 0), 2 * (q - 1) + 1);
        for (int state : new int[] {-1, q, 4, LOW, HIGH}) {
            due("move of state " + state, x.move(0, state, 0, 0, 0), UNKNOWN);
            due("move to state " + state, x.move(0, 0, 0, state, 0), UNKNOWN);
            due("none of state " + state, x.none(0, state, 0), UNKNOWN);
            due("moveOf state " + state, x.moveOf(0, state, 0), UNKNOWN);
            due("table of state " + state, x.table(0, 0, 1, state, 0), UNKNOWN);
        }
    }

    private void signs() {
        sentence(PART, "signs 0 a, 1 b, 2 the LEFT END, 3 the RIGHT END");
        tell(0, "q4;m0a0r;m0b1r;m0(2r;m0)3r;");
        for (int sign = 0; sign < 4; sign++) {
            due("moveOf sign " + sign, x.moveOf(0, 0, sign), 2 * sign + 1);
        }
        for (int sign : new int[] {-1, 4, LOW, HIGH}) {
            due("moveOf sign " + sign, x.moveOf(0, 0, sign), UNKNOWN);
            due("move of sign " + sign, x.move(0, 0, sign, 0, 0), UNKNOWN);
            due("none of sign " + sign, x.none(0, 0, sign), UNKNOWN);
        }
    }

    private void sameState() {
        sentence(PART, "For each STATE and sign a MOVE: another STATE (or the same)");
        x.states(0, 4);
        for (int state = 0; state < 4; state++) {
            due("the same", x.move(0, state, 0, state, 0), NONE);
            due("another", x.move(0, state, 1, 3 - state, 0), NONE);
        }
        dueMoves(0, 0, 6, NONE, NONE, 2, 4, NONE, NONE, 4, 2, NONE, NONE, 6, 0, NONE, NONE);
    }

    private void sides() {
        sentence(PART, "to the left (0) or to the right (1); or none");
        due("left", x.move(0, 0, 0, 0, 0), NONE);
        due("right", x.move(0, 0, 0, 0, 1), 0);
        for (int side : new int[] {-1, 2, LOW, HIGH}) {
            due("side " + side, x.move(0, 0, 0, 0, side), OUTSIDE);
        }
        due("none", x.none(0, 0, 0), 1);
        due("none", x.moveOf(0, 0, 0), NONE);
    }

    private void noneAtFirst() {
        sentence(PART, "All none at first.");
        dueMoves(0, NONE, NONE, NONE, NONE);
        dueMoves(1, NONE, NONE, NONE, NONE);
    }

    // ---- the text

    private void textLimit() {
        sentence(PART, "A MACHINE is told in a text (240 letters at most)");
        dueStates(" ".repeat(237) + "q3;", 3);
        dueStates("q2;" + " ".repeat(231) + "m1)1l;", 2);
        due("the last word counts", x.moveOf(0, 1, 3), 2);
        dueFault(" ".repeat(239) + "x", 1, 239);
        dueFault(" ".repeat(238) + "q1", 1, 240);
        feedAll("q2;" + " ".repeat(237));
        due("letter 241", x.feed('x'), FULL);
        due("it did not come", x.machine(0), 2);
    }

    private void sizeWord() {
        sentence(PART, "'q' N ';' (N STATES; first, once)");
        for (int n = 1; n <= 4; n++) {
            dueStates("q" + n + ";", n);
            due("moves", x.ofMachine(0, 1), 0);
        }
        dueFault("m0a0r;q1;", 1, 0);
        dueFault("q1;q1;", 3, 3);
    }

    private void eachOnce() {
        sentence(PART, "then 'm' S C T D ';' (in STATE S, at sign C: STATE T, to D) each S, C once");
        dueStates(WHOLE, 4);
        dueMoves(0, 0, 1, 2, 3, 4, 5, 6, 7, 6, 7, 4, 5, 2, 3, 0, 1);
        due("all moves", x.ofMachine(0, 1), 16);
        dueFault("q2;m0a0r;m1a0r;m0b0r;m0a0r;", 4, 23);
        dueFault("q2;m1)0l;m1)1r;", 4, 11);
    }

    private void oneFigure() {
        sentence(PART, "S, T one figure");
        dueFault("q2;m00a0r;", 1, 5);
        dueFault("q2;m0a00r;", 1, 7);
        dueFault("q2;m0 0a0r;", 1, 6);
        dueFault("q2;ma0r;", 1, 4);
        dueFault("q2;m0ar;", 1, 6);
        for (char c : "/:".toCharArray()) {
            dueFault("q" + c + ";", 1, 1);
            dueFault("q2;m" + c + "a0r;", 1, 4);
            dueFault("q2;m0a" + c + "r;", 1, 6);
        }
    }

    private void signLetters() {
        sentence(PART, "C a letter 'a', 'b', '(' (LEFT END), ')' (RIGHT END)");
        for (int sign = 0; sign < 4; sign++) {
            dueStates("q1;m0" + "ab()".charAt(sign) + "0r;", 1);
            due("move", x.moveOf(0, 0, sign), 1);
            due("moves", x.ofMachine(0, 1), 1);
        }
        for (char c : "`c'*AB013lr;qm\u0000\u00ff".toCharArray()) {
            dueFault("q2;m0" + c + "0r;", 1, 5);
        }
    }

    private void sideLetters() {
        sentence(PART, "D a letter 'l', 'r'");
        dueStates("q1;m0a0l;m0b0r;", 1);
        due("left", x.moveOf(0, 0, 0), 0);
        due("right", x.moveOf(0, 0, 1), 1);
        for (char c : "kmqsLR01;\u0000\u00ff".toCharArray()) {
            dueFault("q2;m0a0" + c + ";", 1, 7);
        }
    }

    private void blanks() {
        sentence(PART, "Blanks (32) may stand anywhere.");
        String text = "q3;m2)1l;m0a2r;";
        for (int at = 0; at <= text.length(); at++) {
            dueStates(text.substring(0, at) + "  " + text.substring(at), 3);
            dueMoves(0, 5, NONE, NONE, NONE, NONE, NONE, NONE, NONE, NONE, NONE, NONE, 2);
        }
        dueStates(" q  3 ;  m 2  ) 1  l ; m 0  a 2  r ;  ", 3);
        dueMoves(0, 5, NONE, NONE, NONE, NONE, NONE, NONE, NONE, NONE, NONE, NONE, 2);
        for (int c : new int[] {0, 9, 10, 31, 33, 127, 160, 255}) {
            for (int at = 0; at <= text.length(); at++) {
                dueFault(text.substring(0, at) + (char) c + text.substring(at), 1, at);
            }
        }
    }

    private void firstLetterWithAFault() {
        sentence(PART, "FAULTS, at the first letter that has one");
        dueFault("x5;", 1, 0);
        dueFault("q5x", 2, 1);
        dueFault("q2;m2c2x", 2, 4);
        dueFault("q2;m0c2x", 1, 5);
        dueFault("q2;m0a2x", 2, 6);
        dueFault("q2;m0a0xq", 1, 7);
        dueFault("q2;qq", 3, 3);
        dueFault("q2;m0a0r;m0a9x", 4, 11);
        dueFault("q2;m0a0r;m2a0r;", 2, 10);
        dueFault("   x", 1, 3);
    }

    private void faultAtTheEnd() {
        sentence(PART, "(the end at the text's length)");
        String text = "q2;m0a1r;m1(0l;";
        for (int length = 1; length <= text.length(); length++) {
            String begun = text.substring(0, length);
            if (length % 6 == 3) {
                dueStates(begun, 2);
                dueStates(begun + "  ", 2);
            } else {
                dueFault(begun, 1, length);
                dueFault(begun + "  ", 1, length + 2);
            }
        }
        // What stood in a longer text ahead of it must not be read.
        tell(0, " ".repeat(240));
        due("behind a longer text", tell(0, "q"), -11);
        due("behind a longer text", x.fault(), 1);
    }

    private void leastFault() {
        sentence(PART, "FAULTS, at the first letter that has one .., of these the least");
        dueFault("qq", 1, 1);
        dueFault("q2q", 1, 2);
        dueFault("q2;mq", 1, 4);
        dueFault("q2;m0q", 1, 5);
        dueFault("q2;m0aq", 1, 6);
        dueFault("q2;m0a0q", 1, 7);
        dueFault("q2;m0a0rq", 1, 8);
        dueFault("q2;m0a0r;q", 3, 9);
    }

    private void fault1() {
        sentence(PART, "1 it cannot stand there (another word first than 'q'; a sign, a side that is none).");
        for (char c : "pr\u0000mQ;1a\u00ff".toCharArray()) {
            dueFault(c + "1;", 1, 0);
        }
        dueFault("q1:", 1, 2);
        dueFault("q1<", 1, 2);
        dueFault("q1;l", 1, 3);
        dueFault("q1;n", 1, 3);
        dueFault("q1;M", 1, 3);
        dueFault("q1;;", 1, 3);
        dueFault("q1;m0a0r:", 1, 8);
        dueFault("q1;m0a0r<", 1, 8);
    }

    private void fault2() {
        sentence(PART, "2 N out of its bounds; a STATE that there is not.");
        for (int n : new int[] {0, 5, 6, 7, 8, 9}) {
            dueFault("q" + n + ";", 2, 1);
        }
        for (int q = 1; q <= 4; q++) {
            dueStates("q" + q + ";m" + (q - 1) + "a" + (q - 1) + "r;", q);
            for (int state = q; state <= 9; state++) {
                dueFault("q" + q + ";m" + state + "a0r;", 2, 4);
                dueFault("q" + q + ";m0a" + state + "r;", 2, 6);
            }
        }
    }

    private void fault3() {
        sentence(PART, "3 'q' again (at it).");
        dueFault("q2;q", 3, 3);
        dueFault("q2;  q3;", 3, 5);
        dueFault("q2;m0a0r;q2;", 3, 9);
        dueFault("q4;q9;", 3, 3);
    }

    private void fault4() {
        sentence(PART, "4 a MOVE of this STATE and sign told already (at the sign).");
        for (int state = 0; state < 4; state++) {
            for (char sign : "ab()".toCharArray()) {
                dueFault("q4;m" + state + sign + "0l;m" + state + " " + sign + "1r;", 4, 12);
            }
        }
        dueFault("q1;m0a0l;m0a0l;", 4, 11);
        dueFault("q1;m0a0l;m0a", 4, 11);
        dueStates("q1;m0a0l;", 1);
        dueStates("q1;m0a0r;", 1);
        due("another text may tell it anew", x.moveOf(0, 0, 0), 1);
    }

    private void emptyText() {
        sentence(PART, "An empty text (or one of blanks alone): one STATE without MOVES.");
        for (int blanks : new int[] {0, 1, 2, 240}) {
            tell(0, WHOLE);
            dueStates(" ".repeat(blanks), 1);
            dueMoves(0, NONE, NONE, NONE, NONE);
            due("moves", x.ofMachine(0, 1), 0);
        }
    }

    // ---- part 3: by lots, undone

    private void lots() {
        sentence("Terms, 3", "BY LOTS of a SEED: X (the SEED at first) becomes what is left of (X times 16807) by 2147483647");
        for (int q = 1; q <= 4; q++) {
            x.states(1, q);
            for (int seed : new int[] {1, 2, 127773, 127774, 888888, 999998, 999999}) {
                int[] moves = movesByLots(q, seed);
                int count = 0;
                for (int move : moves) {
                    count += move == NONE ? 0 : 1;
                }
                due("drift(1, " + seed + ")", x.drift(1, seed), count);
                dueMoves(1, moves);
            }
        }
    }

    /** The same by a sum that never leaves 32 bits: 2147483647 is 16807 times 127773 and 2836. */
    private static int[] movesByLots(int q, int seed) {
        int[] moves = new int[4 * q];
        int lot = seed;
        for (int i = 0; i < moves.length; i++) {
            lot = nextLot(lot);
            moves[i] = NONE;
            if (lot % 5 != 0) {
                lot = nextLot(lot);
                int to = lot % q;
                lot = nextLot(lot);
                moves[i] = 2 * to + lot % 2;
            }
        }
        return moves;
    }

    private static int nextLot(int lot) {
        int next = 16807 * (lot % 127773) - 2836 * (lot / 127773);
        return next > 0 ? next : next + 2147483647;
    }

    private void undone() {
        sentence("Terms, 3", "UNDONE: .. (8 at most are kept, the oldest are lost)");
        x.states(0, 4);
        x.keep(0);
        ArrayDeque<Integer> past = new ArrayDeque<>();
        int now = NONE;
        int made = 0;
        // More and more come and go, so that the row of what is kept begins at each of its places once.
        for (int rise = 1; rise <= 12; rise++) {
            for (int i = 0; i < rise; i++) {
                past.push(now);
                if (past.size() > 8) {
                    past.removeLast();
                }
                int move = made++ % 8;
                due("was", x.move(0, 0, 0, move / 2, move % 2), now);
                now = move;
                due("can be undone", x.told(3), past.size());
            }
            for (int i = 0; i < (rise == 12 ? 8 : rise / 2) && !past.isEmpty(); i++) {
                now = past.pop();
                due("more can be", x.undo(), past.size());
                due("as ahead of it", x.moveOf(0, 0, 0), now);
            }
        }
        due("none more", x.undo(), NOT);
        due("it stays", x.moveOf(0, 0, 0), now);
    }

    // ---- the promises

    private void promise1() {
        sentence("Promise 1", "Two MACHINES of one STATE without MOVES, a WORD without letters.");
        dueMoves(0, NONE, NONE, NONE, NONE);
        dueMoves(1, NONE, NONE, NONE, NONE);
        due("letters", x.told(0), 0);
        due("told as", x.told(1), 1);
        due("text", x.told(2), 0);
        due("undo", x.told(3), 0);
        due("fault", x.fault(), NONE);
        due("wipe", x.wipe(), 0);
    }

    private void promise2() {
        sentence("Promise 2", "One letter (a number 0 .. 255) comes behind THE TEXT: how many it has. OUTSIDE");
        due("0", x.feed(0), 1);
        due("255", x.feed(255), 2);
        for (int letter : new int[] {-1, 256, 368, LOW, HIGH}) {
            due("feed(" + letter + ")", x.feed(letter), OUTSIDE);
        }
        sentence("Promise 2", "FULL (240).");
        for (int i = 1; i <= 240; i++) {
            due("letter " + i, x.feed(i), i);
        }
        due("letter 241", x.feed(32), FULL);
        due("letters", x.told(2), 240);
        x.machine(0);
        due("not full behind machine()", x.feed(32), 1);
    }

    private void promise3() {
        sentence("Promise 3", "THE TEXT (it is empty then, with a FAULT, too) becomes a MACHINE: how many STATES");
        for (int q = 1; q <= 4; q++) {
            due("states", tell(q % 2, "q" + q + ";"), q);
            due("empty", x.told(2), 0);
        }
        sentence("Promise 3", "-10 less the number of its FAULT (it is as it was).");
        dueFault("x", 1, 0);
        dueFault("q5;", 2, 1);
        dueFault("q1;q", 3, 3);
        dueFault("q1;m0a0r;m0a", 4, 11);
        dueMoves(0, 0, 1, 2, 3, 4, 5, 6, 7, 6, 7, 4, 5, 2, 3, 0, 1);
        due("the other one, too", x.ofMachine(1, 0), 1);
        sentence("Promise 3", "UNKNOWN (THE TEXT stays).");
        feedAll("q3;");
        for (int m : NO_MACHINES) {
            due("machine(" + m + ")", x.machine(m), UNKNOWN);
        }
        due("stays", x.told(2), 3);
        feedAll("m2b1l;");
        due("it can be read then", x.machine(1), 3);
        due("move", x.moveOf(1, 2, 1), 2);
    }

    private void promise4() {
        sentence("Promise 4", "The letter of the FAULT of the latest machine() that was not refused; NONE.");
        due("no machine() yet", x.fault(), NONE);
        x.machine(2);
        due("a refused one alone", x.fault(), NONE);
        tell(1, "x");
        due("at letter 0", x.fault(), 0);
        x.machine(2);
        due("the refused one does not count", x.fault(), 0);
        x.undo();
        due("undo() leaves it", x.fault(), 0);
        tell(0, "q1;x");
        due("the latest", x.fault(), 3);
        x.machine(-1);
        due("the refused one does not count", x.fault(), 3);
        x.machine(0);
        due("no fault", x.fault(), NONE);
    }

    private void promise5() {
        sentence("Promise 5", "A MOVE: what it was (2 times the STATE, and the side; NONE).");
        x.states(1, 4);
        int was = NONE;
        for (int to = 0; to < 4; to++) {
            for (int side = 0; side < 2; side++) {
                due("was", x.move(1, 3, 3, to, side), was);
                was = 2 * to + side;
                due("the same once more", x.move(1, 3, 3, to, side), was);
            }
        }
        due("the other one", x.ofMachine(0, 1), 0);
        sentence("Promise 5", "UNKNOWN (MACHINE, STATES, sign), OUTSIDE (the side).");
        x.states(0, 3);
        int[][] unknown = {{-1, 0, 0, 0}, {2, 0, 0, 0}, {0, -1, 0, 0}, {0, 3, 0, 0}, {0, 0, -1, 0}, {0, 0, 4, 0}, {0, 0, 0, -1},
            {0, 0, 0, 3}, {1, 1, 0, 0}, {1, 0, 0, 1}};
        for (int[] a : unknown) {
            due("unknown", x.move(a[0], a[1], a[2], a[3], 0), UNKNOWN);
        }
        due("side -1", x.move(0, 2, 3, 2, -1), OUTSIDE);
        due("side 2", x.move(0, 2, 3, 2, 2), OUTSIDE);
        due("the last ones", x.move(0, 2, 3, 2, 1), NONE);
    }

    private void promise6() {
        sentence("Promise 6", "No MOVE: what it was.");
        tell(1, WHOLE);
        int[] moves = {0, 1, 2, 3, 4, 5, 6, 7, 6, 7, 4, 5, 2, 3, 0, 1};
        for (int i = 0; i < 16; i++) {
            due("was", x.none(1, i / 4, i % 4), moves[i]);
            due("moves left", x.ofMachine(1, 1), 15 - i);
        }
        sentence("Promise 6", "UNKNOWN, NOT: there is none.");
        due("none at first", x.none(0, 0, 0), NOT);
        x.move(0, 0, 0, 0, 0);
        due("there is one", x.none(0, 0, 0), 0);
        due("there is none any more", x.none(0, 0, 0), NOT);
        due("no state", x.none(0, 1, 0), UNKNOWN);
        due("no sign", x.none(0, 0, 4), UNKNOWN);
    }

    private void promise7() {
        sentence("Promise 7", "n STATES (1 .. 4) without MOVES: how many there were. UNKNOWN, OUTSIDE.");
        int before = 1;
        for (int n : new int[] {4, 1, 1, 2, 3, 4, 4}) {
            due("there were", x.states(0, n), before);
            due("now", x.ofMachine(0, 0), n);
            due("without moves", x.ofMachine(0, 1), 0);
            x.move(0, n - 1, 3, 0, 0);
            before = n;
        }
        for (int n : new int[] {0, 5, -1, LOW, HIGH}) {
            due("states(0, " + n + ")", x.states(0, n), OUTSIDE);
        }
        due("fewer and more again", x.states(0, 1) + x.states(0, 4), 5);
        due("no move comes again", x.moveOf(0, 3, 3), NONE);
    }

    private void promise8() {
        sentence("Promise 8", "BY LOTS of a SEED (1 .. 999999): how many MOVES. UNKNOWN, OUTSIDE.");
        x.states(0, 4);
        due("seed 1", x.drift(0, 1), x.ofMachine(0, 1));
        due("seed 999999", x.drift(0, 999999), x.ofMachine(0, 1));
        int moves = x.ofMachine(0, 1);
        for (int seed : new int[] {0, 1000000, -1, LOW, HIGH}) {
            due("drift(0, " + seed + ")", x.drift(0, seed), OUTSIDE);
        }
        due("as it was", x.ofMachine(0, 1), moves);
        tell(0, WHOLE);
        x.drift(0, 7);
        due("what was there is gone", x.ofMachine(0, 1), 14);
    }

    private void promise9() {
        sentence("Promise 9", "Both MACHINES change places: 1 they are unlike (STATES, MOVES), 0 alike.");
        due("new ones", x.swap(), 0);
        x.states(0, 2);
        due("unlike in states alone", x.swap(), 1);
        dueMoves(0, NONE, NONE, NONE, NONE);
        dueMoves(1, NONE, NONE, NONE, NONE, NONE, NONE, NONE, NONE);
        tell(0, WHOLE);
        tell(1, WHOLE);
        due("alike in all", x.swap(), 0);
        x.move(1, 3, 3, 0, 0);
        due("unlike in a side of the last move", x.swap(), 1);
        x.move(0, 3, 3, 1, 1);
        due("unlike in a state of the last move", x.swap(), 1);
        x.none(1, 3, 3);
        due("unlike in a move that is none", x.swap(), 1);
        x.move(0, 3, 3, 0, 1);
        due("alike again", x.swap(), 0);
    }

    private void promise10() {
        sentence("Promise 10", "The latest is undone: how many more can be. NOT: none.");
        due("none", x.undo(), NOT);
        x.swap();
        due("one, none more", x.undo(), 0);
        due("none", x.undo(), NOT);
        x.letter(97);
        x.feed(32);
        x.moveOf(0, 0, 0);
        due("nothing that can be undone", x.undo(), NOT);
        tell(0, EVEN);
        x.drift(0, 9);
        due("one more", x.undo(), 1);
        dueMoves(0, 3, 1, 1, 1, 1, 3, NONE, NONE);
        sentence("Terms, 3", "UNDONE: the latest of machine(), move(), none(), states(), drift(), swap() that was not refused");
        x.machine(0);
        due("machine()", x.told(3), 1);
        x.move(0, 0, 0, 0, 0);
        due("move()", x.told(3), 2);
        x.none(0, 0, 0);
        due("none()", x.told(3), 3);
        x.states(0, 1);
        due("states()", x.told(3), 4);
        x.drift(0, 1);
        due("drift()", x.told(3), 5);
        x.swap();
        due("swap()", x.told(3), 6);
        tell(0, "x");
        due("machine() with a fault is not refused", x.told(3), 7);
    }

    private void promise11() {
        sentence("Promise 11", "The MOVE of a STATE at a sign: 2 times the STATE, and the side; NONE. UNKNOWN.");
        tell(1, "q4;m0a0l;m3)3r;");
        due("least", x.moveOf(1, 0, 0), 0);
        due("most", x.moveOf(1, 3, 3), 7);
        due("none", x.moveOf(1, 3, 2), NONE);
        int[][] unknown = {{-1, 0, 0}, {2, 0, 0}, {1, -1, 0}, {1, 4, 0}, {0, 1, 0}, {1, 0, -1}, {1, 0, 4}};
        for (int[] a : unknown) {
            due("unknown", x.moveOf(a[0], a[1], a[2]), UNKNOWN);
        }
    }
}
