import java.util.Arrays;

/** Two machines that go back and forth over a word between two ends; README.md says how to use them. */
public final class TwoWays {
    public static final int NONE = -1, UNKNOWN = -1000000001, OUTSIDE = -1000000002, NOT = -1000000003, FULL = -1000000004;

    private static final int MACHINES = 2, IMAGES = 2, RULES = 4;
    private static final int MOST_STATES = 4, SIGNS = 4, LETTERS = 2, LEFT_END = 2, RIGHT_END = 3;
    private static final int TO_LEFT = 0, TO_RIGHT = 1;
    private static final int TEXT_LIMIT = 240, WORD_LIMIT = 24, UNDO_LIMIT = 8, ONE_WAY_LIMIT = 150;
    private static final int TURNED_LIMIT = 6, SEED_LIMIT = 999999;
    private static final int FIRST_TOO_LONG_WORD = 1 << (WORD_LIMIT + 1);
    private static final int BOTH = 0, EITHER = 1, FIRST_ALONE = 2, JUST_ONE = 3;
    private static final int FAULT_BASE = -10;

    private final Both machines = new Both();
    private final History history = new History();
    private final Both[] images = new Both[IMAGES];
    private final boolean[] imageKept = new boolean[IMAGES];
    private final Text text = new Text();
    private final Machine draft = new Machine();
    private final Word theWord = new Word();
    private final Word trial = new Word();
    private final Course course = new Course();
    private final OneWay oneWayOfZero = new OneWay();
    private final OneWay oneWayOfOne = new OneWay();
    private final Meeting meeting = new Meeting();
    private int faultPlace = NONE;

    public TwoWays() {
        for (int i = 0; i < IMAGES; i++) {
            images[i] = new Both();
        }
    }

    // ---- machines

    public int feed(int letter) {
        if (letter < 0 || letter > 255) {
            return OUTSIDE;
        }
        return text.add(letter) ? text.length() : FULL;
    }

    public int machine(int m) {
        if (!isMachine(m)) {
            return UNKNOWN;
        }
        int fault = text.readInto(draft);
        faultPlace = fault == 0 ? NONE : text.place();
        text.clear();
        // A text with a fault is no refusal, so this call, too, is one that can be undone.
        history.remember(machines);
        if (fault != 0) {
            return FAULT_BASE - fault;
        }
        machines.at(m).become(draft);
        return draft.size();
    }

    public int fault() {
        return faultPlace;
    }

    public int move(int m, int state, int sign, int to, int side) {
        if (!hasMoveOf(m, state, sign) || !machines.at(m).hasState(to)) {
            return UNKNOWN;
        }
        if (!isSide(side)) {
            return OUTSIDE;
        }
        return change(machines.at(m), state, sign, 2 * to + side);
    }

    public int none(int m, int state, int sign) {
        if (!hasMoveOf(m, state, sign)) {
            return UNKNOWN;
        }
        if (machines.at(m).at(state, sign) == NONE) {
            return NOT;
        }
        return change(machines.at(m), state, sign, NONE);
    }

    public int states(int m, int n) {
        if (!isMachine(m)) {
            return UNKNOWN;
        }
        if (n < 1 || n > MOST_STATES) {
            return OUTSIDE;
        }
        history.remember(machines);
        int before = machines.at(m).size();
        machines.at(m).empty(n);
        return before;
    }

    public int drift(int m, int seed) {
        if (!isMachine(m)) {
            return UNKNOWN;
        }
        if (seed < 1 || seed > SEED_LIMIT) {
            return OUTSIDE;
        }
        history.remember(machines);
        machines.at(m).drawLots(seed);
        return machines.at(m).countMoves();
    }

    public int swap() {
        history.remember(machines);
        boolean alike = machines.at(0).isLike(machines.at(1));
        machines.changePlaces(draft);
        return alike ? 0 : 1;
    }

    public int undo() {
        return history.stepBack(machines) ? history.size() : NOT;
    }

    public int moveOf(int m, int state, int sign) {
        return hasMoveOf(m, state, sign) ? machines.at(m).at(state, sign) : UNKNOWN;
    }

    // ---- the word

    public int letter(int letter) {
        if (letter != 'a' && letter != 'b') {
            return OUTSIDE;
        }
        return theWord.add(letter - 'a') ? theWord.length() : FULL;
    }

    public int word(int number) {
        if (number < 1 || number >= FIRST_TOO_LONG_WORD) {
            return OUTSIDE;
        }
        theWord.become(number);
        return theWord.length();
    }

    public int wipe() {
        int before = theWord.length();
        theWord.become(1);
        return before;
    }

    public int told(int what) {
        switch (what) {
            case 0:
                return theWord.length();
            case 1:
                return theWord.number();
            case 2:
                return text.length();
            case 3:
                return history.size();
            case 4:
                return tellWhetherNone(firstByRule(JUST_ONE));
            default:
                return OUTSIDE;
        }
    }

    public int run(int m, int what) {
        if (!isMachine(m)) {
            return UNKNOWN;
        }
        if (what < 0 || what > 5) {
            return OUTSIDE;
        }
        course.follow(machines.at(m), theWord);
        switch (what) {
            case 0:
                return course.isTaken() ? 1 : 0;
            case 1:
                return course.ending();
            case 2:
                return course.steps();
            case 3:
                return course.lastState();
            case 4:
                return course.countGaps(theWord.length());
            default:
                return course.busiestGap(theWord.length());
        }
    }

    public int crossed(int m, int gap, int k) {
        if (!isMachine(m)) {
            return UNKNOWN;
        }
        if (gap < 0 || gap > theWord.length() || k < NONE) {
            return OUTSIDE;
        }
        course.follow(machines.at(m), theWord);
        return k == NONE ? course.howOften(gap) : course.stateAt(gap, k);
    }

    // ---- tables

    public int table(int m, int i, int j, int state, int side) {
        if (!isMachine(m) || !machines.at(m).hasState(state)) {
            return UNKNOWN;
        }
        if (!isSide(side) || !isPiece(i, j)) {
            return OUTSIDE;
        }
        return goOffPiece(machines.at(m), i, j, state, side);
    }

    public int alike(int m, int i, int j, int a, int b) {
        if (!isMachine(m)) {
            return UNKNOWN;
        }
        if (!isPiece(i, j) || !isPiece(a, b)) {
            return OUTSIDE;
        }
        Machine machine = machines.at(m);
        for (int state = 0; state < machine.size(); state++) {
            for (int side = TO_LEFT; side <= TO_RIGHT; side++) {
                if (goOffPiece(machine, i, j, state, side) != goOffPiece(machine, a, b, state, side)) {
                    return 0;
                }
            }
        }
        return 1;
    }

    public int ofMachine(int m, int what) {
        if (!isMachine(m)) {
            return UNKNOWN;
        }
        if (what < 0 || what > 5) {
            return OUTSIDE;
        }
        Machine machine = machines.at(m);
        if (what < 2) {
            return what == 0 ? machine.size() : machine.countMoves();
        }
        OneWay made = oneWayFor(m);
        if (made.isTooMany()) {
            return FULL;
        }
        switch (what) {
            case 2:
                return made.size();
            case 3:
                return made.leastSize();
            case 4:
                return made.firstWord(true);
            default:
                return made.firstWord(false);
        }
    }

    public int oneWay(int m, int state, int what) {
        if (!isMachine(m)) {
            return UNKNOWN;
        }
        OneWay made = oneWayFor(m);
        if (made.isTooMany()) {
            return FULL;
        }
        if (!made.hasState(state)) {
            return UNKNOWN;
        }
        if (what < 0 || what >= 4 + machines.at(m).size()) {
            return OUTSIDE;
        }
        if (what < LETTERS) {
            return made.next(state, what);
        }
        if (what == 2) {
            return made.isGood(state) ? 1 : 0;
        }
        return what == 3 ? made.firstOff(state) : made.comesBack(state, what - 4);
    }

    public int taken(int m, int length) {
        if (!isMachine(m)) {
            return UNKNOWN;
        }
        if (length < 0 || length > WORD_LIMIT) {
            return OUTSIDE;
        }
        OneWay made = oneWayFor(m);
        return made.isTooMany() ? FULL : made.countWords(length);
    }

    public int first(int rule) {
        return rule < 0 || rule >= RULES ? UNKNOWN : firstByRule(rule);
    }

    public int turned(int m, int length) {
        if (!isMachine(m)) {
            return UNKNOWN;
        }
        if (length < 0 || length > TURNED_LIMIT) {
            return OUTSIDE;
        }
        int count = 0;
        for (int number = 1 << length; number < 2 << length; number++) {
            if (isTakenBothWays(machines.at(m), number)) {
                count++;
            }
        }
        return count;
    }

    // ---- images

    public int keep(int i) {
        Both image = imageAt(i);
        if (image == null) {
            return UNKNOWN;
        }
        image.become(machines);
        imageKept[i] = true;
        history.forget();
        return 1;
    }

    public int goBack(int i) {
        Both image = imageAt(i);
        if (image == null) {
            return UNKNOWN;
        }
        if (!imageKept[i]) {
            return NOT;
        }
        machines.become(image);
        history.forget();
        return 1;
    }

    // ---- helpers

    private static boolean isMachine(int m) {
        return m >= 0 && m < MACHINES;
    }

    private static boolean isSign(int sign) {
        return sign >= 0 && sign < SIGNS;
    }

    private static boolean isSide(int side) {
        return side == TO_LEFT || side == TO_RIGHT;
    }

    private static int stateOf(int move) {
        return move >> 1;
    }

    private static int sideOf(int move) {
        return move & 1;
    }

    private static int shift(int move) {
        return sideOf(move) == TO_RIGHT ? 1 : -1;
    }

    /** The number of a word with one letter more; 0 stands for every word that is too long to be told. */
    private static int lengthen(int number, int letter) {
        int longer = 2 * number + letter;
        return number == 0 || longer >= FIRST_TOO_LONG_WORD ? 0 : longer;
    }

    private boolean hasMoveOf(int m, int state, int sign) {
        return isMachine(m) && machines.at(m).hasState(state) && isSign(sign);
    }

    private boolean isPiece(int i, int j) {
        return i >= 0 && i < j && j <= theWord.length();
    }

    private Both imageAt(int i) {
        return i >= 0 && i < IMAGES ? images[i] : null;
    }

    private int change(Machine machine, int state, int sign, int move) {
        history.remember(machines);
        int before = machine.at(state, sign);
        machine.put(state, sign, move);
        return before;
    }

    private OneWay oneWayFor(int m) {
        OneWay made = m == 0 ? oneWayOfZero : oneWayOfOne;
        made.make(machines.at(m));
        return made;
    }

    private int firstByRule(int rule) {
        oneWayOfZero.make(machines.at(0));
        oneWayOfOne.make(machines.at(1));
        boolean tooMany = oneWayOfZero.isTooMany() || oneWayOfOne.isTooMany();
        return tooMany ? FULL : meeting.firstWord(oneWayOfZero, oneWayOfOne, rule);
    }

    private static int tellWhetherNone(int word) {
        if (word == FULL) {
            return FULL;
        }
        return word == NONE ? 1 : 0;
    }

    /** The move with which one goes off letters i .. j of the word, having come to them in a state from a side. */
    private int goOffPiece(Machine machine, int i, int j, int state, int side) {
        int now = state;
        int letter = side == TO_LEFT ? i : j - 1;
        // Whoever is still inside after as many steps as there are states and letters goes round for ever.
        for (int steps = 0; steps < MOST_STATES * WORD_LIMIT; steps++) {
            int move = machine.at(now, theWord.letterAt(letter));
            if (move == NONE) {
                return NONE;
            }
            now = stateOf(move);
            letter += shift(move);
            if (letter < i || letter >= j) {
                return move;
            }
        }
        return NONE;
    }

    private boolean isTakenBothWays(Machine machine, int number) {
        trial.become(number);
        course.follow(machine, trial);
        if (!course.isTaken()) {
            return false;
        }
        trial.turn();
        course.follow(machine, trial);
        return course.isTaken();
    }

    /** A machine: its moves are told as 2 times the state and the side, or NONE. */
    private static final class Machine {
        private static final int FACTOR = 16807, DIVISOR = 2147483647;

        private final int[] moves = new int[MOST_STATES * SIGNS];
        private int size = 1;
        private long lot;

        Machine() {
            Arrays.fill(moves, NONE);
        }

        int size() {
            return size;
        }

        boolean hasState(int state) {
            return state >= 0 && state < size;
        }

        int at(int state, int sign) {
            return state >= 0 && state < size && isSign(sign) ? moves[SIGNS * state + sign] : NONE;
        }

        void put(int state, int sign, int move) {
            if (hasState(state) && isSign(sign)) {
                moves[SIGNS * state + sign] = move;
            }
        }

        void empty(int count) {
            size = Math.min(MOST_STATES, Math.max(1, count));
            Arrays.fill(moves, NONE);
        }

        void become(Machine other) {
            size = other.size;
            System.arraycopy(other.moves, 0, moves, 0, moves.length);
        }

        boolean isLike(Machine other) {
            for (int i = 0; i < moves.length; i++) {
                if (moves[i] != other.moves[i]) {
                    return false;
                }
            }
            return size == other.size;
        }

        int countMoves() {
            int count = 0;
            for (int i = 0; i < moves.length; i++) {
                if (moves[i] != NONE) {
                    count++;
                }
            }
            return count;
        }

        /** Each number wanted takes a lot of its own: whether there is a move, then its state, then its side. */
        void drawLots(int seed) {
            lot = seed;
            for (int state = 0; state < size; state++) {
                for (int sign = 0; sign < SIGNS; sign++) {
                    put(state, sign, drawLot(5) == 0 ? NONE : drawMove());
                }
            }
        }

        private int drawMove() {
            int to = drawLot(size);
            return 2 * to + drawLot(2);
        }

        private int drawLot(int kinds) {
            lot = lot * FACTOR % DIVISOR;
            return kinds > 0 ? (int) (lot % kinds) : 0;
        }
    }

    /** Both machines, as they stand now or as they are kept. */
    private static final class Both {
        private final Machine zero = new Machine();
        private final Machine one = new Machine();

        Machine at(int m) {
            return m == 0 ? zero : one;
        }

        void become(Both other) {
            zero.become(other.zero);
            one.become(other.one);
        }

        void changePlaces(Machine spare) {
            spare.become(zero);
            zero.become(one);
            one.become(spare);
        }
    }

    /** What can be undone: a ring, so that the oldest is lost when one too many comes. */
    private static final class History {
        private final Both[] ring = new Both[UNDO_LIMIT];
        private int size;
        private int free;

        History() {
            for (int i = 0; i < UNDO_LIMIT; i++) {
                ring[i] = new Both();
            }
        }

        int size() {
            return size;
        }

        void remember(Both now) {
            Both slot = slotAt(free);
            if (slot != null) {
                slot.become(now);
            }
            free = (free + 1) % UNDO_LIMIT;
            size = Math.min(UNDO_LIMIT, size + 1);
        }

        boolean stepBack(Both now) {
            if (size == 0) {
                return false;
            }
            size--;
            free = (free + UNDO_LIMIT - 1) % UNDO_LIMIT;
            Both latest = slotAt(free);
            if (latest != null) {
                now.become(latest);
            }
            return true;
        }

        void forget() {
            size = 0;
        }

        private Both slotAt(int i) {
            return i >= 0 && i < UNDO_LIMIT ? ring[i] : null;
        }
    }

    /** The text; while it is read, the place stays at the first letter that has a fault. */
    private static final class Text {
        private static final int END = -1, BLANK = 32;
        private static final int CANNOT_STAND = 1, NO_SUCH = 2, TOLD_SIZE_AGAIN = 3, TOLD_MOVE_AGAIN = 4;

        private final int[] letters = new int[TEXT_LIMIT];
        private int length;
        private int place;
        private int fault;

        int length() {
            return length;
        }

        int place() {
            return place;
        }

        boolean add(int letter) {
            if (length < 0 || length >= TEXT_LIMIT) {
                return false;
            }
            letters[length] = letter;
            length++;
            return true;
        }

        void clear() {
            length = 0;
        }

        /** The number of the fault; 0: there is none, and the machine is the one that the text tells. */
        int readInto(Machine made) {
            place = 0;
            fault = 0;
            made.empty(1);
            if (upcoming() != END) {
                readSize(made);
            }
            for (int words = 0; words < TEXT_LIMIT && fault == 0 && upcoming() != END; words++) {
                readMove(made);
            }
            return fault;
        }

        private void readSize(Machine made) {
            takeLetter('q');
            int size = takeFigure(1, MOST_STATES);
            takeLetter(';');
            if (fault == 0) {
                made.empty(size);
            }
        }

        private void readMove(Machine made) {
            if (upcoming() == 'q') {
                blame(TOLD_SIZE_AGAIN);
            }
            takeLetter('m');
            int state = takeFigure(0, made.size() - 1);
            int sign = takeSign(made, state);
            int to = takeFigure(0, made.size() - 1);
            int side = takeSide();
            takeLetter(';');
            if (fault == 0) {
                made.put(state, sign, 2 * to + side);
            }
        }

        private void takeLetter(int letter) {
            passIf(upcoming() == letter);
        }

        private int takeFigure(int least, int most) {
            int figure = upcoming() - '0';
            boolean isFigure = figure >= 0 && figure <= 9;
            if (isFigure && (figure < least || figure > most)) {
                blame(NO_SUCH);
            }
            passIf(isFigure);
            return figure;
        }

        private int takeSign(Machine made, int state) {
            int sign = signOf(upcoming());
            if (made.at(state, sign) != NONE) {
                blame(TOLD_MOVE_AGAIN);
            }
            passIf(sign != NONE);
            return sign;
        }

        private int takeSide() {
            int letter = upcoming();
            passIf(letter == 'l' || letter == 'r');
            return letter == 'r' ? TO_RIGHT : TO_LEFT;
        }

        private static int signOf(int letter) {
            switch (letter) {
                case 'a':
                    return 0;
                case 'b':
                    return 1;
                case '(':
                    return LEFT_END;
                case ')':
                    return RIGHT_END;
                default:
                    return NONE;
            }
        }

        private int upcoming() {
            while (place < length && place < TEXT_LIMIT && letters[place] == BLANK) {
                place++;
            }
            return place < length && place < TEXT_LIMIT ? letters[place] : END;
        }

        private void passIf(boolean fits) {
            if (!fits) {
                blame(CANNOT_STAND);
            }
            if (fault == 0) {
                place++;
            }
        }

        private void blame(int number) {
            if (fault == 0) {
                fault = number;
            }
        }
    }

    /** A word; its letters are held as their signs. */
    private static final class Word {
        private final int[] letters = new int[WORD_LIMIT];
        private int length;

        int length() {
            return length;
        }

        boolean add(int letter) {
            if (length < 0 || length >= WORD_LIMIT) {
                return false;
            }
            letters[length] = letter;
            length++;
            return true;
        }

        int letterAt(int i) {
            return i >= 0 && i < length && i < WORD_LIMIT ? letters[i] : NONE;
        }

        /** The sign at a place: the left end is place 0, the first letter place 1. */
        int signAt(int place) {
            if (place == 0) {
                return LEFT_END;
            }
            return place == length + 1 ? RIGHT_END : letterAt(place - 1);
        }

        int number() {
            int number = 1;
            for (int i = 0; i < length; i++) {
                number = 2 * number + letterAt(i);
            }
            return number;
        }

        void become(int number) {
            length = 0;
            boolean begun = false;
            for (int bit = WORD_LIMIT; bit >= 0; bit--) {
                int letter = (number >> bit) & 1;
                if (begun) {
                    add(letter);
                }
                begun = begun || letter == 1;
            }
        }

        void turn() {
            for (int left = 0, right = length - 1; left < right && right < WORD_LIMIT; left++, right--) {
                int letter = letters[left];
                letters[left] = letters[right];
                letters[right] = letter;
            }
        }
    }

    /** The run of a machine over a word: how it ends, and each step with its gap and the state into which it came. */
    private static final class Course {
        private static final int TAKEN = 0, STUCK = 1, OFF = 2, FOR_EVER = 3, GOING = 4;
        private static final int PLACES = WORD_LIMIT + 2, STEP_LIMIT = MOST_STATES * PLACES;

        private final int[] statesSeen = new int[PLACES];
        private final int[] gaps = new int[STEP_LIMIT];
        private final int[] states = new int[STEP_LIMIT];
        private int steps;
        private int state;
        private int place;
        private int ending;

        void follow(Machine machine, Word word) {
            Arrays.fill(statesSeen, 0);
            steps = 0;
            state = 0;
            place = 0;
            ending = GOING;
            arrive(word);
            // Each turn begins in a state at a place where none began yet, so there are no more turns than these.
            for (int turn = 0; turn < STEP_LIMIT && ending == GOING; turn++) {
                step(machine, word);
            }
        }

        boolean isTaken() {
            return ending == TAKEN;
        }

        int ending() {
            return ending;
        }

        int steps() {
            return steps;
        }

        int lastState() {
            return state;
        }

        int howOften(int gap) {
            int count = 0;
            for (int i = 0; i < steps && i < STEP_LIMIT; i++) {
                if (gaps[i] == gap) {
                    count++;
                }
            }
            return count;
        }

        int stateAt(int gap, int k) {
            int before = 0;
            for (int i = 0; i < steps && i < STEP_LIMIT; i++) {
                if (gaps[i] == gap) {
                    if (before == k) {
                        return states[i];
                    }
                    before++;
                }
            }
            return NONE;
        }

        int countGaps(int lastGap) {
            int count = 0;
            for (int gap = 0; gap <= lastGap; gap++) {
                if (howOften(gap) > 0) {
                    count++;
                }
            }
            return count;
        }

        int busiestGap(int lastGap) {
            int busiest = NONE;
            int most = 0;
            for (int gap = 0; gap <= lastGap; gap++) {
                int often = howOften(gap);
                if (often > most) {
                    most = often;
                    busiest = gap;
                }
            }
            return busiest;
        }

        private void step(Machine machine, Word word) {
            int move = machine.at(state, word.signAt(place));
            if (move == NONE) {
                ending = STUCK;
                return;
            }
            state = stateOf(move);
            int from = place;
            place += shift(move);
            note(Math.min(from, place));
            arrive(word);
        }

        private void note(int gap) {
            if (steps >= 0 && steps < STEP_LIMIT) {
                gaps[steps] = gap;
                states[steps] = state;
                steps++;
            }
        }

        private void arrive(Word word) {
            if (place < 0) {
                ending = OFF;
            } else if (place > word.length() + 1 || place >= PLACES) {
                ending = TAKEN;
            } else if ((statesSeen[place] >> state & 1) == 1) {
                ending = FOR_EVER;
            } else {
                statesSeen[place] |= 1 << state;
            }
        }
    }

    /** A machine made one-way; what was made stays till it is asked of another machine. */
    private static final class OneWay {
        // What a beginning does: slot 0 the state of the first going off, then one slot for each state coming back.
        private static final int SLOTS = MOST_STATES + 1, KINDS = MOST_STATES + 1;
        private static final int CODES = KINDS * KINDS * KINDS * KINDS * KINDS;

        private final Machine source = new Machine();
        private final int[] doings = new int[ONE_WAY_LIMIT * SLOTS];
        private final int[] found = new int[SLOTS];
        private final int[] numberByCode = new int[CODES];
        private final int[] nexts = new int[ONE_WAY_LIMIT * LETTERS];
        private final boolean[] goods = new boolean[ONE_WAY_LIMIT];
        private final int[] words = new int[ONE_WAY_LIMIT];
        private final int[] groups = new int[ONE_WAY_LIMIT];
        private final int[] finerGroups = new int[ONE_WAY_LIMIT];
        private final int[] leaders = new int[ONE_WAY_LIMIT];
        private final int[] ways = new int[ONE_WAY_LIMIT];
        private final int[] longerWays = new int[ONE_WAY_LIMIT];
        private boolean made;
        private boolean tooMany;
        private int size;
        private int least;

        void make(Machine machine) {
            if (made && source.isLike(machine)) {
                return;
            }
            source.become(machine);
            made = true;
            tooMany = false;
            size = 0;
            least = 0;
            Arrays.fill(numberByCode, NONE);
            findBehind(NONE, LEFT_END);
            numberOfFound(1);
            for (int state = 0; state < size && state < ONE_WAY_LIMIT && !tooMany; state++) {
                for (int letter = 0; letter < LETTERS; letter++) {
                    findBehind(state, letter);
                    nexts[LETTERS * state + letter] = numberOfFound(lengthen(words[state], letter));
                }
            }
            markGoods();
        }

        boolean isTooMany() {
            return tooMany;
        }

        int size() {
            return size;
        }

        boolean hasState(int state) {
            return state >= 0 && state < size && state < ONE_WAY_LIMIT;
        }

        int next(int state, int letter) {
            return hasState(state) && letter >= 0 && letter < LETTERS ? nexts[LETTERS * state + letter] : NONE;
        }

        boolean isGood(int state) {
            return hasState(state) && goods[state];
        }

        int firstOff(int state) {
            return hasState(state) ? doings[SLOTS * state] : NONE;
        }

        int comesBack(int state, int inState) {
            boolean isThere = hasState(state) && inState >= 0 && inState < MOST_STATES;
            return isThere ? doings[SLOTS * state + 1 + inState] : NONE;
        }

        /** The states are numbered as the words that lead to them rise, so the first such state has the first word. */
        int firstWord(boolean good) {
            for (int state = 0; state < size && state < ONE_WAY_LIMIT; state++) {
                if (goods[state] == good) {
                    return words[state];
                }
            }
            return NONE;
        }

        int countWords(int length) {
            Arrays.fill(ways, 0);
            ways[0] = 1;
            for (int letters = 0; letters < length; letters++) {
                countOneLetterMore();
            }
            int count = 0;
            for (int state = 0; state < size && state < ONE_WAY_LIMIT; state++) {
                count += goods[state] ? ways[state] : 0;
            }
            return count;
        }

        int leastSize() {
            if (least == 0) {
                groupByGoodness();
                for (int round = 0; round <= ONE_WAY_LIMIT; round++) {
                    int finer = splitGroups();
                    if (finer == least) {
                        break;
                    }
                    least = finer;
                }
            }
            return least;
        }

        /** Finds what the beginning does that has one sign behind a state's beginning (NONE: no sign ahead of it). */
        private void findBehind(int state, int sign) {
            found[0] = goOff(state, sign, state == NONE ? 0 : firstOff(state));
            for (int slot = 1; slot < SLOTS; slot++) {
                found[slot] = goOff(state, sign, slot - 1);
            }
        }

        /** The state in which one goes off to the right from a sign behind a state's beginning. */
        private int goOff(int state, int sign, int inState) {
            int now = inState;
            // Whoever comes to the sign more often than there are states goes round for ever.
            for (int visits = 0; visits < MOST_STATES && now != NONE; visits++) {
                int move = source.at(now, sign);
                if (move == NONE) {
                    return NONE;
                }
                if (sideOf(move) == TO_RIGHT) {
                    return stateOf(move);
                }
                now = comesBack(state, stateOf(move));
            }
            return NONE;
        }

        private int numberOfFound(int word) {
            int code = codeOfFound();
            if (code < 0 || code >= CODES) {
                return NONE;
            }
            if (numberByCode[code] == NONE) {
                if (size < 0 || size >= ONE_WAY_LIMIT) {
                    tooMany = true;
                    return NONE;
                }
                numberByCode[code] = size;
                addFound(word);
            }
            return numberByCode[code];
        }

        private int codeOfFound() {
            int code = 0;
            for (int slot = 0; slot < SLOTS; slot++) {
                code = KINDS * code + found[slot] + 1;
            }
            return code;
        }

        private void addFound(int word) {
            int state = size;
            size++;
            if (hasState(state)) {
                System.arraycopy(found, 0, doings, SLOTS * state, SLOTS);
                words[state] = word;
            }
        }

        private void markGoods() {
            for (int state = 0; state < size && state < ONE_WAY_LIMIT; state++) {
                goods[state] = goOff(state, RIGHT_END, firstOff(state)) != NONE;
            }
        }

        private void countOneLetterMore() {
            Arrays.fill(longerWays, 0);
            for (int state = 0; state < size && state < ONE_WAY_LIMIT; state++) {
                for (int letter = 0; letter < LETTERS; letter++) {
                    int to = next(state, letter);
                    if (hasState(to)) {
                        longerWays[to] += ways[state];
                    }
                }
            }
            System.arraycopy(longerWays, 0, ways, 0, ONE_WAY_LIMIT);
        }

        private void groupByGoodness() {
            for (int state = 0; state < size && state < ONE_WAY_LIMIT; state++) {
                groups[state] = goods[state] ? 1 : 0;
            }
        }

        private int splitGroups() {
            int count = 0;
            for (int state = 0; state < size && state < ONE_WAY_LIMIT; state++) {
                int group = groupAmong(count, state);
                if (group == count && count < ONE_WAY_LIMIT) {
                    leaders[count] = state;
                    count++;
                }
                finerGroups[state] = group;
            }
            System.arraycopy(finerGroups, 0, groups, 0, ONE_WAY_LIMIT);
            return count;
        }

        private int groupAmong(int count, int state) {
            for (int group = 0; group < count && group < ONE_WAY_LIMIT; group++) {
                if (goTogether(leaders[group], state)) {
                    return group;
                }
            }
            return count;
        }

        private boolean goTogether(int one, int other) {
            return groupOf(one) == groupOf(other)
                    && groupOf(next(one, 0)) == groupOf(next(other, 0))
                    && groupOf(next(one, 1)) == groupOf(next(other, 1));
        }

        private int groupOf(int state) {
            return hasState(state) ? groups[state] : NONE;
        }
    }

    /** Two one-way machines led over the same words, the shortest and first of them first. */
    private static final class Meeting {
        private static final int PAIRS = ONE_WAY_LIMIT * ONE_WAY_LIMIT, PAIR_BITS = 15, PAIR_MASK = (1 << PAIR_BITS) - 1;
        private static final int MET_CELLS = PAIRS / 32 + 1;

        // A pair and the word that leads to it share one cell, to keep the object small.
        private final long[] queue = new long[PAIRS];
        private final int[] met = new int[MET_CELLS];
        private int waiting;

        int firstWord(OneWay zero, OneWay one, int rule) {
            Arrays.fill(met, 0);
            waiting = 0;
            meet(0, 0, 1);
            for (int i = 0; i < waiting && i < PAIRS; i++) {
                int pair = (int) (queue[i] & PAIR_MASK);
                int word = (int) (queue[i] >> PAIR_BITS);
                int left = pair / ONE_WAY_LIMIT;
                int right = pair % ONE_WAY_LIMIT;
                if (fits(rule, zero.isGood(left), one.isGood(right))) {
                    return word;
                }
                meet(zero.next(left, 0), one.next(right, 0), lengthen(word, 0));
                meet(zero.next(left, 1), one.next(right, 1), lengthen(word, 1));
            }
            return NONE;
        }

        private static boolean fits(int rule, boolean zero, boolean one) {
            switch (rule) {
                case BOTH:
                    return zero && one;
                case EITHER:
                    return zero || one;
                case FIRST_ALONE:
                    return zero && !one;
                default:
                    return zero != one;
            }
        }

        private void meet(int left, int right, int word) {
            int pair = ONE_WAY_LIMIT * left + right;
            if (left < 0 || right < 0 || pair >= PAIRS || waiting >= PAIRS || isMet(pair)) {
                return;
            }
            met[pair >> 5] |= 1 << (pair & 31);
            queue[waiting] = (long) word << PAIR_BITS | pair;
            waiting++;
        }

        private boolean isMet(int pair) {
            return (met[pair >> 5] >> (pair & 31) & 1) == 1;
        }
    }
}
