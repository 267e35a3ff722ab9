import java.util.ArrayDeque;
import java.util.ArrayList;
import java.util.HashMap;
import java.util.HashSet;
import java.util.List;
import java.util.Map;
import java.util.Set;

/**
 * The document once more, written from its words in another way: words are texts, beginnings are walked letter by
 * letter instead of being put together, pieces are put together from tables instead of being walked.
 */
final class Oracle {
    static final int NONE = -1, UNKNOWN = -1000000001, OUTSIDE = -1000000002, NOT = -1000000003, FULL = -1000000004;
    private static final String SIGNS = "ab()";

    /** A machine that never changes: moves by state and sign, {state, side} or null. */
    static final class Mach {
        final int q;
        final int[][][] moves;

        Mach(int q) {
            this.q = q;
            moves = new int[q][4][];
        }

        Mach with(int state, char sign, int[] move) {
            Mach copy = new Mach(q);
            for (int s = 0; s < q; s++) {
                for (int c = 0; c < 4; c++) {
                    copy.moves[s][c] = moves[s][c];
                }
            }
            copy.moves[state][SIGNS.indexOf(sign)] = move;
            return copy;
        }

        int[] move(int state, char sign) {
            return moves[state][SIGNS.indexOf(sign)];
        }

        String tell() {
            StringBuilder b = new StringBuilder("q" + q + ";");
            for (int s = 0; s < q; s++) {
                for (int c = 0; c < 4; c++) {
                    if (moves[s][c] != null) {
                        b.append("m" + s + SIGNS.charAt(c) + moves[s][c][0] + "lr".charAt(moves[s][c][1]) + ";");
                    }
                }
            }
            return b.toString();
        }
    }

    /** What a walk does: how it ends (0 off right, 1 stuck, 2 off left, 3 for ever), and its steps. */
    static final class Walk {
        int ending;
        int state;
        final List<int[]> steps = new ArrayList<>();
    }

    static Walk walk(Mach m, String tape, int state, int place) {
        Walk w = new Walk();
        Set<String> been = new HashSet<>();
        int at = place;
        w.state = state;
        while (true) {
            if (at < 0 || at >= tape.length()) {
                w.ending = at < 0 ? 2 : 0;
                return w;
            }
            if (!been.add(w.state + "/" + at)) {
                w.ending = 3;
                return w;
            }
            int[] move = m.move(w.state, tape.charAt(at));
            if (move == null) {
                w.ending = 1;
                return w;
            }
            int to = move[1] == 1 ? at + 1 : at - 1;
            w.state = move[0];
            w.steps.add(new int[] {move[1] == 1 ? at : to, w.state});
            at = to;
        }
    }

    static boolean takes(Mach m, String word) {
        return walk(m, "(" + word + ")", 0, 0).ending == 0;
    }

    /** The one-way machine, each state told by the first word that leads to it. */
    static final class Straight {
        final List<List<Integer>> doings = new ArrayList<>();
        final List<String> words = new ArrayList<>();
        final List<int[]> next = new ArrayList<>();
        final List<Boolean> good = new ArrayList<>();
        boolean tooMany;
    }

    static List<Integer> doing(Mach m, String word) {
        String tape = "(" + word;
        List<Integer> d = new ArrayList<>();
        Walk first = walk(m, tape, 0, 0);
        d.add(first.ending == 0 ? first.state : NONE);
        for (int s = 0; s < m.q; s++) {
            Walk back = walk(m, tape, s, tape.length() - 1);
            d.add(back.ending == 0 ? back.state : NONE);
        }
        return d;
    }

    private final Map<String, Straight> straightened = new HashMap<>();

    Straight straight(Mach m) {
        return straightened.computeIfAbsent(m.tell(), t -> straighten(m));
    }

    private static Straight straighten(Mach m) {
        Straight s = new Straight();
        Map<List<Integer>, Integer> number = new HashMap<>();
        number.put(doing(m, ""), 0);
        s.doings.add(doing(m, ""));
        s.words.add("");
        for (int i = 0; i < s.words.size(); i++) {
            int[] to = new int[2];
            for (int c = 0; c < 2; c++) {
                String word = s.words.get(i) + "ab".charAt(c);
                List<Integer> d = doing(m, word);
                if (!number.containsKey(d)) {
                    if (s.words.size() == 150) {
                        s.tooMany = true;
                        return s;
                    }
                    number.put(d, s.words.size());
                    s.doings.add(d);
                    s.words.add(word);
                }
                to[c] = number.get(d);
            }
            s.next.add(to);
            s.good.add(takes(m, s.words.get(i)));
        }
        return s;
    }

    static int least(Straight s) {
        int n = s.words.size();
        boolean[][] apart = new boolean[n][n];
        boolean more = true;
        for (int i = 0; i < n; i++) {
            for (int j = 0; j < n; j++) {
                apart[i][j] = !s.good.get(i).equals(s.good.get(j));
            }
        }
        while (more) {
            more = false;
            for (int i = 0; i < n; i++) {
                for (int j = 0; j < n; j++) {
                    for (int c = 0; c < 2; c++) {
                        if (!apart[i][j] && apart[s.next.get(i)[c]][s.next.get(j)[c]]) {
                            apart[i][j] = true;
                            more = true;
                        }
                    }
                }
            }
        }
        int count = 0;
        for (int i = 0; i < n; i++) {
            boolean fresh = true;
            for (int j = 0; j < i; j++) {
                fresh = fresh && apart[i][j];
            }
            count += fresh ? 1 : 0;
        }
        return count;
    }

    static int number(String word) {
        if (word.length() > 24) {
            return 0;
        }
        return Integer.parseInt("1" + word.replace('a', '0').replace('b', '1'), 2);
    }

    static String wordOf(int number) {
        return Integer.toBinaryString(number).substring(1).replace('0', 'a').replace('1', 'b');
    }

    private static boolean fits(int rule, boolean p, boolean r) {
        return rule == 0 ? p && r : rule == 1 ? p || r : rule == 2 ? p && !r : p ^ r;
    }

    private static int firstOfPair(Straight p, Straight r, int rule) {
        ArrayDeque<Object[]> queue = new ArrayDeque<>();
        Set<String> met = new HashSet<>();
        queue.add(new Object[] {0, 0, ""});
        met.add("0,0");
        while (!queue.isEmpty()) {
            Object[] at = queue.poll();
            int i = (Integer) at[0];
            int j = (Integer) at[1];
            if (fits(rule, p.good.get(i), r.good.get(j))) {
                return number((String) at[2]);
            }
            for (int c = 0; c < 2; c++) {
                int k = p.next.get(i)[c];
                int l = r.next.get(j)[c];
                if (met.add(k + "," + l)) {
                    queue.add(new Object[] {k, l, at[2] + "" + "ab".charAt(c)});
                }
            }
        }
        return NONE;
    }

    // ---- a table is an array: by state, from the left and then from the right, {state, side} or null

    static int[][][] tableOf(Mach m, String piece) {
        if (piece.length() == 1) {
            int[][][] t = new int[m.q][2][];
            for (int s = 0; s < m.q; s++) {
                t[s][0] = m.move(s, piece.charAt(0));
                t[s][1] = t[s][0];
            }
            return t;
        }
        int half = piece.length() / 2;
        return together(tableOf(m, piece.substring(0, half)), tableOf(m, piece.substring(half)));
    }

    private static int[][][] together(int[][][] left, int[][][] right) {
        int[][][] t = new int[left.length][2][];
        for (int s = 0; s < left.length; s++) {
            t[s][0] = bounce(left, right, left[s][0], true);
            t[s][1] = bounce(left, right, right[s][1], false);
        }
        return t;
    }

    private static int[] bounce(int[][][] left, int[][][] right, int[] begun, boolean inLeft) {
        int[] out = begun;
        boolean isLeft = inLeft;
        for (int k = 0; k < 100 && out != null; k++) {
            if (out[1] == (isLeft ? 0 : 1)) {
                return out;
            }
            out = isLeft ? right[out[0]][0] : left[out[0]][1];
            isLeft = !isLeft;
        }
        return null;
    }

    private static int code(int[] move) {
        return move == null ? NONE : 2 * move[0] + move[1];
    }

    // ---- what the object holds

    private Mach[] now = {new Mach(1), new Mach(1)};
    private final ArrayDeque<Mach[]> past = new ArrayDeque<>();
    private final Mach[][] images = new Mach[2][];
    private final StringBuilder text = new StringBuilder();
    private String word = "";
    private int faultPlace = NONE;

    Mach mach(int m) {
        return now[m];
    }

    private void remember() {
        past.push(now.clone());
        if (past.size() > 8) {
            past.removeLast();
        }
    }

    private boolean noMachine(int m) {
        return m != 0 && m != 1;
    }

    private boolean noState(int m, int state) {
        return state < 0 || state >= now[m].q;
    }

    private static boolean noSign(int sign) {
        return sign < 0 || sign > 3;
    }

    int feed(int letter) {
        if (letter < 0 || letter > 255) {
            return OUTSIDE;
        }
        if (text.length() == 240) {
            return FULL;
        }
        text.append((char) letter);
        return text.length();
    }

    int machine(int m) {
        if (noMachine(m)) {
            return UNKNOWN;
        }
        String t = text.toString();
        text.setLength(0);
        remember();
        Object[] read = read(t);
        faultPlace = (Integer) read[1];
        if (read[0] == null) {
            return -10 - (Integer) read[2];
        }
        now[m] = (Mach) read[0];
        return now[m].q;
    }

    /** {machine or null, place of the fault or NONE, number of the fault}: a letter's slot tells what may stand there. */
    static Object[] read(String t) {
        Mach made = new Mach(1);
        int slot = 0;
        int state = 0;
        int to = 0;
        char sign = 'a';
        for (int i = 0; i < t.length(); i++) {
            char c = t.charAt(i);
            if (c == ' ') {
                continue;
            }
            char kind = slot < 3 ? "qN;".charAt(slot) : "mSCTD;".charAt((slot - 3) % 6);
            boolean figure = c >= '0' && c <= '9';
            int wrong = 0;
            switch (kind) {
                case 'N':
                    wrong = !figure ? 1 : c < '1' || c > '4' ? 2 : 0;
                    break;
                case 'S':
                case 'T':
                    wrong = !figure ? 1 : c - '0' >= made.q ? 2 : 0;
                    break;
                case 'C':
                    wrong = SIGNS.indexOf(c) < 0 ? 1 : made.move(state, c) != null ? 4 : 0;
                    break;
                case 'D':
                    wrong = c != 'l' && c != 'r' ? 1 : 0;
                    break;
                default:
                    wrong = c == kind ? 0 : kind == 'm' && c == 'q' ? 3 : 1;
            }
            if (wrong != 0) {
                return new Object[] {null, i, wrong};
            }
            made = kind == 'N' ? new Mach(c - '0') : made;
            state = kind == 'S' ? c - '0' : state;
            sign = kind == 'C' ? c : sign;
            to = kind == 'T' ? c - '0' : to;
            made = kind == 'D' ? made.with(state, sign, new int[] {to, c == 'r' ? 1 : 0}) : made;
            slot++;
        }
        boolean whole = slot == 0 || slot >= 3 && (slot - 3) % 6 == 0;
        return whole ? new Object[] {made, NONE, 0} : new Object[] {null, t.length(), 1};
    }

    int fault() {
        return faultPlace;
    }

    int move(int m, int state, int sign, int to, int side) {
        if (noMachine(m) || noState(m, state) || noSign(sign) || noState(m, to)) {
            return UNKNOWN;
        }
        if (side != 0 && side != 1) {
            return OUTSIDE;
        }
        remember();
        int before = code(now[m].moves[state][sign]);
        now[m] = now[m].with(state, SIGNS.charAt(sign), new int[] {to, side});
        return before;
    }

    int none(int m, int state, int sign) {
        if (noMachine(m) || noState(m, state) || noSign(sign)) {
            return UNKNOWN;
        }
        int before = code(now[m].moves[state][sign]);
        if (before == NONE) {
            return NOT;
        }
        remember();
        now[m] = now[m].with(state, SIGNS.charAt(sign), null);
        return before;
    }

    int states(int m, int n) {
        if (noMachine(m)) {
            return UNKNOWN;
        }
        if (n < 1 || n > 4) {
            return OUTSIDE;
        }
        remember();
        int before = now[m].q;
        now[m] = new Mach(n);
        return before;
    }

    int drift(int m, int seed) {
        if (noMachine(m)) {
            return UNKNOWN;
        }
        if (seed < 1 || seed > 999999) {
            return OUTSIDE;
        }
        remember();
        Mach made = new Mach(now[m].q);
        long x = seed;
        int count = 0;
        for (int s = 0; s < made.q; s++) {
            for (char sign : SIGNS.toCharArray()) {
                x = x * 16807L % 2147483647L;
                if (x % 5 != 0) {
                    x = x * 16807L % 2147483647L;
                    int to = (int) (x % made.q);
                    x = x * 16807L % 2147483647L;
                    made = made.with(s, sign, new int[] {to, (int) (x % 2)});
                    count++;
                }
            }
        }
        now[m] = made;
        return count;
    }

    int swap() {
        remember();
        now = new Mach[] {now[1], now[0]};
        return now[0].tell().equals(now[1].tell()) ? 0 : 1;
    }

    int undo() {
        if (past.isEmpty()) {
            return NOT;
        }
        now = past.pop();
        return past.size();
    }

    int moveOf(int m, int state, int sign) {
        return noMachine(m) || noState(m, state) || noSign(sign) ? UNKNOWN : code(now[m].moves[state][sign]);
    }

    int letter(int letter) {
        if (letter != 97 && letter != 98) {
            return OUTSIDE;
        }
        if (word.length() == 24) {
            return FULL;
        }
        word += (char) letter;
        return word.length();
    }

    int word(int number) {
        if (number < 1 || wordOf(number).length() > 24) {
            return OUTSIDE;
        }
        word = wordOf(number);
        return word.length();
    }

    int wipe() {
        int before = word.length();
        word = "";
        return before;
    }

    int told(int what) {
        switch (what) {
            case 0:
                return word.length();
            case 1:
                return number(word);
            case 2:
                return text.length();
            case 3:
                return past.size();
            case 4:
                int apart = first(3);
                return apart == FULL ? FULL : apart == NONE ? 1 : 0;
            default:
                return OUTSIDE;
        }
    }

    private int[] crossings(Walk w) {
        int[] often = new int[word.length() + 1];
        for (int[] step : w.steps) {
            if (step[0] >= 0 && step[0] <= word.length()) {
                often[step[0]]++;
            }
        }
        return often;
    }

    int run(int m, int what) {
        if (noMachine(m)) {
            return UNKNOWN;
        }
        if (what < 0 || what > 5) {
            return OUTSIDE;
        }
        Walk w = walk(now[m], "(" + word + ")", 0, 0);
        int crossed = 0;
        int most = NONE;
        int[] often = crossings(w);
        for (int g = often.length - 1; g >= 0; g--) {
            crossed += often[g] > 0 ? 1 : 0;
            most = often[g] > 0 && (most == NONE || often[g] >= often[most]) ? g : most;
        }
        return new int[] {w.ending == 0 ? 1 : 0, w.ending, w.steps.size(), w.state, crossed, most}[what];
    }

    int crossed(int m, int gap, int k) {
        if (noMachine(m)) {
            return UNKNOWN;
        }
        if (gap < 0 || gap > word.length() || k < NONE) {
            return OUTSIDE;
        }
        List<Integer> into = new ArrayList<>();
        for (int[] step : walk(now[m], "(" + word + ")", 0, 0).steps) {
            if (step[0] == gap) {
                into.add(step[1]);
            }
        }
        return k == NONE ? into.size() : k < into.size() ? into.get(k) : NONE;
    }

    private boolean noPiece(int i, int j) {
        return i < 0 || i >= j || j > word.length();
    }

    int table(int m, int i, int j, int state, int side) {
        if (noMachine(m) || noState(m, state)) {
            return UNKNOWN;
        }
        if (side < 0 || side > 1 || noPiece(i, j)) {
            return OUTSIDE;
        }
        return code(tableOf(now[m], word.substring(i, j))[state][side]);
    }

    int alike(int m, int i, int j, int a, int b) {
        if (noMachine(m)) {
            return UNKNOWN;
        }
        if (noPiece(i, j) || noPiece(a, b)) {
            return OUTSIDE;
        }
        for (int s = 0; s < now[m].q; s++) {
            if (table(m, i, j, s, 0) != table(m, a, b, s, 0) || table(m, i, j, s, 1) != table(m, a, b, s, 1)) {
                return 0;
            }
        }
        return 1;
    }

    private int firstWord(Straight s, boolean good) {
        int at = s.good.indexOf(good);
        return at < 0 ? NONE : number(s.words.get(at));
    }

    int ofMachine(int m, int what) {
        if (noMachine(m)) {
            return UNKNOWN;
        }
        if (what < 0 || what > 5) {
            return OUTSIDE;
        }
        if (what == 0) {
            return now[m].q;
        }
        if (what == 1) {
            return now[m].tell().split("m", -1).length - 1;
        }
        Straight s = straight(now[m]);
        if (s.tooMany) {
            return FULL;
        }
        return what == 2 ? s.words.size() : what == 3 ? least(s) : firstWord(s, what == 4);
    }

    int oneWay(int m, int state, int what) {
        if (noMachine(m)) {
            return UNKNOWN;
        }
        Straight s = straight(now[m]);
        if (s.tooMany) {
            return FULL;
        }
        if (state < 0 || state >= s.words.size()) {
            return UNKNOWN;
        }
        if (what < 0 || what > 3 + now[m].q) {
            return OUTSIDE;
        }
        if (what < 2) {
            return s.next.get(state)[what];
        }
        return what == 2 ? (s.good.get(state) ? 1 : 0) : s.doings.get(state).get(what - 3);
    }

    int taken(int m, int length) {
        if (noMachine(m)) {
            return UNKNOWN;
        }
        if (length < 0 || length > 24) {
            return OUTSIDE;
        }
        Straight s = straight(now[m]);
        if (s.tooMany) {
            return FULL;
        }
        return length <= 9 ? countByWalking(now[m], length) : (int) countFrom(s, 0, length, new HashMap<>());
    }

    private static int countByWalking(Mach m, int length) {
        int count = 0;
        for (int number = 1 << length; number < 2 << length; number++) {
            count += takes(m, wordOf(number)) ? 1 : 0;
        }
        return count;
    }

    private static long countFrom(Straight s, int state, int length, Map<Integer, Long> known) {
        if (length == 0) {
            return s.good.get(state) ? 1 : 0;
        }
        Long before = known.get(100 * state + length);
        if (before != null) {
            return before;
        }
        long count = countFrom(s, s.next.get(state)[0], length - 1, known)
                + countFrom(s, s.next.get(state)[1], length - 1, known);
        known.put(100 * state + length, count);
        return count;
    }

    int first(int rule) {
        if (rule < 0 || rule > 3) {
            return UNKNOWN;
        }
        Straight p = straight(now[0]);
        Straight r = straight(now[1]);
        return p.tooMany || r.tooMany ? FULL : firstOfPair(p, r, rule);
    }

    int turned(int m, int length) {
        if (noMachine(m)) {
            return UNKNOWN;
        }
        if (length < 0 || length > 6) {
            return OUTSIDE;
        }
        int count = 0;
        for (int number = 1 << length; number < 2 << length; number++) {
            String w = wordOf(number);
            count += takes(now[m], w) && takes(now[m], new StringBuilder(w).reverse().toString()) ? 1 : 0;
        }
        return count;
    }

    int keep(int i) {
        if (i != 0 && i != 1) {
            return UNKNOWN;
        }
        images[i] = now.clone();
        past.clear();
        return 1;
    }

    int goBack(int i) {
        if (i != 0 && i != 1) {
            return UNKNOWN;
        }
        if (images[i] == null) {
            return NOT;
        }
        now = images[i].clone();
        past.clear();
        return 1;
    }
}
