import java.util.ArrayDeque;
import java.util.ArrayList;
import java.util.Arrays;
import java.util.Deque;
import java.util.HashMap;
import java.util.List;
import java.util.Map;
import java.util.regex.Matcher;
import java.util.regex.Pattern;

/**
 * The document a second time, written with the library and without a thought of speed, so that
 * random runs can be answered twice. It shares no code with the program.
 */
final class PlainModel {
    static final class Fault extends RuntimeException {
        private static final long serialVersionUID = 1L;
        final int number;

        Fault(int place, int kind) {
            number = 1 + 8 * place + kind;
        }
    }

    interface Sum {
        long of(Map<String, Long> words);
    }

    interface Truth {
        boolean of(Map<String, Long> words);
    }

    record Clause(Sum sum, Truth test) {
    }

    record Token(int place, String text) {
        boolean isNumber() {
            return !text.isEmpty() && text.charAt(0) >= '0' && text.charAt(0) <= '9';
        }
    }

    record Person(int thanks, int serves) {
    }

    /** The court as told. */
    static final class Told {
        int day;
        int owed;
        List<Integer> ranks = new ArrayList<>();
        Map<Integer, Integer> usual = new HashMap<>();
        List<Person> people = new ArrayList<>();
        List<int[]> quarrels = new ArrayList<>();
    }

    /** What acts change; never changed once it has been handed on. */
    static final class State {
        int hour = 0;
        int last = -1;
        int tray = -1;
        int gloves = 0;
        int[] thanks = new int[6];
        boolean[][] titles = new boolean[6][6];
        int[] hands = new int[6];
        int[] times = new int[6];

        State copy() {
            State s = new State();
            s.hour = hour;
            s.last = last;
            s.tray = tray;
            s.gloves = gloves;
            s.thanks = thanks.clone();
            for (int i = 0; i < 6; i++) {
                s.titles[i] = titles[i].clone();
            }
            s.hands = hands.clone();
            s.times = times.clone();
            return s;
        }

        int bits(int person) {
            int bits = 0;
            for (int t = 0; t < 6; t++) {
                bits += titles[person][t] ? 1 << t : 0;
            }
            return bits;
        }
    }

    record Image(Told told, State state, List<State> past, List<int[]> notes, int force, long x) {
    }

    private StringBuilder tape = new StringBuilder();
    private final List<List<Clause>> rules = new ArrayList<>();
    private Told told = null;
    private State state = new State();
    private Deque<State> past = new ArrayDeque<>();
    private List<int[]> notes = new ArrayList<>();
    private int force = -1;
    private long x = 0;
    private final Image[] images = new Image[4];

    // ---- texts

    private static List<Token> tokens(String text) {
        List<Token> row = new ArrayList<>();
        Matcher m = Pattern.compile("[a-z]+|[0-9]+|<=|>=|[^ ]", Pattern.DOTALL).matcher(text);
        while (m.find()) {
            row.add(new Token(m.start(), m.group()));
        }
        row.add(new Token(text.length(), ""));
        return row;
    }

    private static int number(Token t, int least, int most) {
        if (!t.isNumber()) {
            throw new Fault(t.place, 0);
        }
        if (t.text.length() > 5 || Integer.parseInt(t.text) < least || Integer.parseInt(t.text) > most) {
            throw new Fault(t.place, 1);
        }
        return Integer.parseInt(t.text);
    }

    private static Told readCourt(String text) {
        List<Token> row = tokens(text);
        Told court = new Told();
        int i = 0;
        for (int clause = 0; ; clause++) {
            Token word = row.get(i++);
            if (!List.of("court", "thing", "holds", "person", "quarrel").contains(word.text)) {
                throw new Fault(word.place, 0);
            }
            boolean misplaced = clause == 40 || word.text.equals("court") != (clause == 0)
                    || word.text.equals("thing") && court.ranks.size() == 6
                    || word.text.equals("person") && court.people.size() == 6;
            if (misplaced) {
                throw new Fault(word.place, 4);
            }
            int told = court.ranks.size() - 1;
            if (word.text.equals("court")) {
                court.day = number(row.get(i++), 1, 12);
                court.owed = number(row.get(i++), 1, 99);
            } else if (word.text.equals("thing")) {
                court.ranks.add(number(row.get(i++), 0, 20));
            } else if (word.text.equals("holds")) {
                int clock = number(row.get(i++), 0, court.day - 1);
                court.usual.put(clock, number(row.get(i++), 0, told));
            } else if (word.text.equals("person")) {
                int thanks = number(row.get(i++), 0, 99);
                court.people.add(new Person(thanks, number(row.get(i++), 0, 9)));
            } else {
                int one = number(row.get(i++), 0, told);
                Token second = row.get(i++);
                int other = number(second, 0, told);
                if (one == other) {
                    throw new Fault(second.place, 1);
                }
                court.quarrels.add(new int[] {one, other});
            }
            Token next = row.get(i++);
            if (next.text.isEmpty()) {
                return court;
            }
            if (!next.text.equals(";")) {
                throw new Fault(next.place, 0);
            }
        }
    }

    private static final class RuleText {
        final List<Token> row;
        int i = 0;
        int parts = 0;

        RuleText(String text) {
            row = tokens(text);
        }

        Token peek() {
            return row.get(i);
        }

        boolean has(String text) {
            if (peek().text.equals(text)) {
                i++;
                return true;
            }
            return false;
        }

        List<Clause> all() {
            List<Clause> clauses = new ArrayList<>();
            while (true) {
                if (!peek().text.equals("hold")) {
                    throw new Fault(peek().place, 0);
                }
                if (clauses.size() == 12) {
                    throw new Fault(peek().place, 4);
                }
                i++;
                Sum sum = sum();
                clauses.add(new Clause(sum, has("if") ? test(0) : w -> true));
                if (peek().text.isEmpty()) {
                    return clauses;
                }
                if (!has(";")) {
                    throw new Fault(peek().place, 0);
                }
            }
        }

        Truth test(int depth) {
            Truth left = part(depth);
            while (has("or")) {
                Truth l = left;
                Truth r = part(depth);
                left = w -> l.of(w) || r.of(w);
            }
            return left;
        }

        Truth part(int depth) {
            Truth left = fact(depth);
            while (has("and")) {
                Truth l = left;
                Truth r = fact(depth);
                left = w -> l.of(w) && r.of(w);
            }
            return left;
        }

        Truth fact(int depth) {
            Token t = peek();
            if (t.text.equals("not") || t.text.equals("[")) {
                if (depth == 10) {
                    throw new Fault(t.place, 2);
                }
                i++;
                if (t.text.equals("not")) {
                    Truth inner = fact(depth + 1);
                    return w -> !inner.of(w);
                }
                Truth inner = test(depth + 1);
                if (!has("]")) {
                    throw new Fault(peek().place, 0);
                }
                return inner;
            }
            Sum left = sum();
            Token sign = peek();
            if (!List.of("<", "<=", "=", ">=", ">").contains(sign.text)) {
                throw new Fault(sign.place, 0);
            }
            part(sign);
            i++;
            Sum right = sum();
            return switch (sign.text) {
                case "<" -> w -> left.of(w) < right.of(w);
                case "<=" -> w -> left.of(w) <= right.of(w);
                case "=" -> w -> left.of(w) == right.of(w);
                case ">=" -> w -> left.of(w) >= right.of(w);
                default -> w -> left.of(w) > right.of(w);
            };
        }

        void part(Token t) {
            if (++parts > 60) {
                throw new Fault(t.place, 3);
            }
        }

        Sum sum() {
            Sum left = term();
            while (true) {
                Sum l = left;
                if (has("+")) {
                    Sum r = term();
                    left = w -> l.of(w) + r.of(w);
                } else if (has("-")) {
                    Sum r = term();
                    left = w -> l.of(w) - r.of(w);
                } else {
                    return left;
                }
            }
        }

        Sum term() {
            Sum left = value();
            while (true) {
                Sum l = left;
                if (has("*")) {
                    Sum r = value();
                    left = w -> l.of(w) * r.of(w);
                } else if (has("/")) {
                    Sum r = value();
                    left = w -> r.of(w) == 0 ? 0 : l.of(w) / r.of(w);
                } else if (has("%")) {
                    Sum r = value();
                    left = w -> r.of(w) == 0 ? 0 : l.of(w) % r.of(w);
                } else {
                    return left;
                }
            }
        }

        Sum value() {
            Token t = peek();
            if (t.isNumber()) {
                long n = number(t, 0, 99999);
                part(t);
                i++;
                return w -> n;
            }
            if (!Arrays.asList("thing", "rank", "clock", "usual", "last", "times", "titles", "due",
                    "knights", "most", "people", "hour").contains(t.text)) {
                throw new Fault(t.place, 0);
            }
            part(t);
            i++;
            return w -> w.get(t.text);
        }
    }

    // ---- hours

    private int things() {
        return told == null ? 0 : told.ranks.size();
    }

    private int people() {
        return told == null ? 0 : told.people.size();
    }

    private boolean isThing(int t) {
        return t >= 0 && t < things();
    }

    private boolean isPerson(int p) {
        return p >= 0 && p < people();
    }

    private State begin() {
        State s = new State();
        for (int p = 0; p < people(); p++) {
            s.thanks[p] = told.people.get(p).thanks;
        }
        return s;
    }

    private long worth(State s, List<Clause> rule, int t) {
        Map<String, Long> w = new HashMap<>();
        long due = 0;
        long knights = 0;
        long most = 0;
        long titles = 0;
        for (int p = 0; p < people(); p++) {
            due += s.thanks[p] >= told.owed ? 1 : 0;
            knights += s.bits(p) != 0 ? 1 : 0;
            most = Math.max(most, s.thanks[p]);
            titles += s.titles[p][t] ? 1 : 0;
        }
        w.put("thing", (long) t);
        w.put("rank", (long) told.ranks.get(t));
        w.put("clock", (long) (s.hour % told.day));
        w.put("usual", told.usual.getOrDefault(s.hour % told.day, -1) == t ? 1L : 0L);
        w.put("last", s.last == t ? 1L : 0L);
        w.put("times", (long) s.times[t]);
        w.put("titles", titles);
        w.put("due", due);
        w.put("knights", knights);
        w.put("most", most);
        w.put("people", (long) people());
        w.put("hour", (long) s.hour);
        for (Clause c : rule) {
            if (c.test.of(w)) {
                return c.sum.of(w);
            }
        }
        return 0;
    }

    private int hand(State s, int by) {
        if (s.gloves > 0) {
            return -1;
        }
        if (s.tray >= 0) {
            return s.tray;
        }
        if (by < 0) {
            return told.usual.getOrDefault(s.hour % told.day, -1);
        }
        int best = -1;
        for (int t = things() - 1; t >= 0; t--) {
            long worth = worth(s, rules.get(by), t);
            if (worth > 0 && (best < 0 || worth >= worth(s, rules.get(by), best))) {
                best = t;
            }
        }
        return best;
    }

    private int pass(State s, int by) {
        int held = hand(s, by);
        s.tray = -1;
        if (s.gloves > 0) {
            s.gloves--;
        }
        s.last = held;
        if (held >= 0) {
            s.times[held]++;
        }
        int bits = 0;
        for (int p = 0; p < people(); p++) {
            s.thanks[p] = Math.min(999, s.thanks[p] + told.people.get(p).serves);
            if (s.thanks[p] >= told.owed) {
                bits |= 1 << p;
                if (held >= 0) {
                    s.titles[p][held] = true;
                } else {
                    s.hands[p]++;
                }
                s.thanks[p] = 0;
            }
        }
        s.hour++;
        return bits;
    }

    private State after(State from, int n) {
        State s = from.copy();
        for (int i = 0; i < n; i++) {
            pass(s, force);
        }
        return s;
    }

    private int rank(State s, int p) {
        int sum = 0;
        for (int t = 0; t < things(); t++) {
            sum += s.titles[p][t] ? told.ranks.get(t) : 0;
        }
        return sum;
    }

    private void act() {
        past.addLast(state.copy());
        if (past.size() > 20) {
            past.removeFirst();
        }
    }

    // ---- the face

    int feed(int... five) {
        if (tape.length() > 380) {
            return -1;
        }
        for (int v : five) {
            for (int k = 3; k >= 0; k--) {
                tape.append((char) (v >>> 8 * k & 0xff));
            }
        }
        return tape.length();
    }

    int end(int n) {
        if (n < 0 || n > tape.length()) {
            return -1;
        }
        tape.setLength(n);
        return n;
    }

    int court() {
        String text = tape.toString();
        tape.setLength(0);
        try {
            told = readCourt(text);
        } catch (Fault f) {
            return -2 - f.number;
        }
        state = begin();
        notes = new ArrayList<>();
        past = new ArrayDeque<>();
        return things();
    }

    int rule() {
        if (rules.size() == 6) {
            return -1;
        }
        String text = tape.toString();
        tape.setLength(0);
        try {
            rules.add(new RuleText(text).all());
        } catch (Fault f) {
            return -2 - f.number;
        }
        return rules.size() - 1;
    }

    int force(int r) {
        if (r < -1 || r >= rules.size()) {
            return -2;
        }
        int was = force;
        force = r;
        return was;
    }

    int thing(int t, int what) {
        if (!isThing(t) || what < 0 || what > 3) {
            return -1;
        }
        int sum = 0;
        if (what == 2) {
            for (int p = 0; p < people(); p++) {
                sum += state.titles[p][t] ? 1 : 0;
            }
        }
        if (what == 3) {
            for (int[] q : told.quarrels) {
                sum |= q[0] == t ? 1 << q[1] : q[1] == t ? 1 << q[0] : 0;
            }
        }
        return what == 0 ? told.ranks.get(t) : what == 1 ? state.times[t] : sum;
    }

    int usual(int clock) {
        return told == null || clock < 0 || clock >= told.day ? -2 : told.usual.getOrDefault(clock, -1);
    }

    int person(int p, int what) {
        if (!isPerson(p) || what < 0 || what > 4) {
            return -1;
        }
        return new int[] {state.thanks[p], told.people.get(p).serves, state.bits(p), rank(state, p),
            state.hands[p]}[what];
    }

    int hour() {
        if (told == null || state.hour == 999) {
            return -1;
        }
        act();
        return pass(state, force);
    }

    int deed(int p, int much) {
        if (!isPerson(p) || much < 1 || much > 99) {
            return -1;
        }
        act();
        return state.thanks[p] = Math.min(999, state.thanks[p] + much);
    }

    int slight(int p, int much) {
        if (!isPerson(p) || much < 1 || much > 99 || state.thanks[p] < much) {
            return -1;
        }
        act();
        return state.thanks[p] -= much;
    }

    int tray(int t) {
        if (told == null || t != -1 && !isThing(t) || t == state.tray) {
            return -2;
        }
        act();
        int was = state.tray;
        state.tray = t;
        return was;
    }

    int gloves(int hours) {
        if (told == null || hours < 1 || hours > 9) {
            return -1;
        }
        act();
        int was = state.gloves;
        state.gloves = hours;
        return was;
    }

    int strip(int p, int t) {
        if (!isPerson(p) || !isThing(t) || !state.titles[p][t]) {
            return -1;
        }
        act();
        state.titles[p][t] = false;
        return state.bits(p);
    }

    int undo() {
        if (past.isEmpty()) {
            return -2;
        }
        state = past.removeLast().copy();
        return past.size();
    }

    int ahead(int number, int n, int what) {
        if (told == null || n < 0 || n > 100 || what < 0 || what > 2 || what > 0 && !isPerson(number)) {
            return -2;
        }
        State s = after(state, n);
        return what == 0 ? hand(s, force) : what == 1 ? s.bits(number) : s.thanks[number];
    }

    int dubbed(int p, int what) {
        if (!isPerson(p) || what < 0 || what > 1) {
            return -3;
        }
        State s = state.copy();
        for (int i = 0; i < 100; i++) {
            int begun = s.hour;
            if ((pass(s, force) & 1 << p) != 0) {
                return what == 0 ? begun : s.last;
            }
        }
        return -2;
    }

    int least(int p, int t, int n) {
        if (!isPerson(p) || !isThing(t) || n < 1 || n > 60) {
            return -1;
        }
        for (int d = 0; d <= 200; d++) {
            State s = state.copy();
            s.thanks[p] = Math.min(999, s.thanks[p] + d);
            if (after(s, n).titles[p][t]) {
                return d;
            }
        }
        return -2;
    }

    int spare(int t, int n, int what) {
        if (!isThing(t) || n < 1 || n > 8 || what < 0 || what > 1) {
            return -1;
        }
        for (int size = 0; size <= n; size++) {
            for (int set = 0; set < 1 << n; set++) {
                if (Integer.bitCount(set) != size) {
                    continue;
                }
                boolean spared = true;
                State s = state.copy();
                for (int i = 0; i < n; i++) {
                    s.gloves = (set & 1 << i) != 0 ? 1 : 0;
                    spared &= pass(s, force) == 0 || s.last != t;
                }
                if (spared) {
                    return what == 0 ? size : set;
                }
            }
        }
        return -99;
    }

    int lay(int p, int n, int what) {
        if (!isPerson(p) || n < 1 || n > 60 || what < 0 || what > 1) {
            return -2;
        }
        int best = -1;
        int most = -1;
        for (int t = -1; t < things(); t++) {
            State s = state.copy();
            s.tray = t;
            int sum = rank(after(s, n), p);
            if (sum > most) {
                most = sum;
                best = t;
            }
        }
        return what == 0 ? best : most;
    }

    int held(int n, int what) {
        if (told == null || n < 1 || n > 100 || what != 6 && !isThing(what)) {
            return -1;
        }
        int[] times = new int[6];
        State s = state.copy();
        for (int i = 0; i < n; i++) {
            int t = hand(s, force);
            pass(s, force);
            if (t >= 0) {
                times[t]++;
            }
        }
        int none = 0;
        for (int t = 0; t < things(); t++) {
            none |= times[t] == 0 ? 1 << t : 0;
        }
        return what == 6 ? none : times[what];
    }

    int place(int p) {
        if (!isPerson(p)) {
            return -1;
        }
        List<Integer> order = new ArrayList<>();
        for (int q = 0; q < people(); q++) {
            order.add(q);
        }
        order.sort((a, b) -> rank(state, b) - rank(state, a));
        return order.indexOf(p);
    }

    int stripped(int what) {
        if (told == null || what < 0 || what > 1) {
            return -1;
        }
        for (int size = 0; size <= people(); size++) {
            for (int set = 0; set < 1 << people(); set++) {
                if (Integer.bitCount(set) == size && peace(set)) {
                    return what == 0 ? size : set;
                }
            }
        }
        return -99;
    }

    private boolean peace(int gone) {
        for (int[] q : told.quarrels) {
            for (int a = 0; a < people(); a++) {
                for (int b = 0; b < people(); b++) {
                    boolean stay = (gone & 1 << a) == 0 && (gone & 1 << b) == 0;
                    if (stay && state.titles[a][q[0]] && state.titles[b][q[1]]) {
                        return false;
                    }
                }
            }
        }
        return true;
    }

    int gold(int much, int p) {
        if (!isPerson(p) || much < 0 || much > 9999) {
            return -1;
        }
        int total = 0;
        for (int q = 0; q < people(); q++) {
            total += rank(state, q);
        }
        if (total == 0) {
            return 0;
        }
        int whole = total;
        int[] part = new int[people()];
        List<Integer> order = new ArrayList<>();
        int left = much;
        for (int q = 0; q < people(); q++) {
            part[q] = much * rank(state, q) / whole;
            left -= part[q];
            order.add(q);
        }
        order.sort((a, b) -> much * rank(state, b) % whole - much * rank(state, a) % whole);
        for (int i = 0; i < left; i++) {
            part[order.get(i)]++;
        }
        return part[p];
    }

    int rests(int one, int other, int n, int what) {
        if (!isPerson(one) || !isPerson(other) || one == other || n < 1 || n > 20 || what < 0 || what > 2) {
            return -1;
        }
        int[][] mine = new int[5][5];
        int[][] his = new int[5][5];
        for (int a = 0; a < 5; a++) {
            for (int b = 0; b < 5; b++) {
                State s = state.copy();
                s.thanks[one] = Math.min(999, s.thanks[one] + 10 * a);
                s.thanks[other] = Math.min(999, s.thanks[other] + 10 * b);
                s = after(s, n);
                mine[a][b] = rank(s, one) - a;
                his[a][b] = rank(s, other) - b;
            }
        }
        List<int[]> all = new ArrayList<>();
        for (int a = 0; a < 5; a++) {
            for (int b = 0; b < 5; b++) {
                boolean rest = true;
                for (int k = 0; k < 5; k++) {
                    rest &= mine[k][b] <= mine[a][b] && his[a][k] <= his[a][b];
                }
                if (rest) {
                    all.add(new int[] {a, b});
                }
            }
        }
        if (what == 0) {
            return all.size();
        }
        return all.isEmpty() ? -2 : 10 * all.get(0)[what - 1];
    }

    int ring(int what) {
        if (told == null || what < 0 || what > 1) {
            return -1;
        }
        List<Integer> row = new ArrayList<>();
        State s = state.copy();
        for (int i = 0; i < 70; i++) {
            pass(s, force);
            row.add(s.last);
        }
        for (int i = 0; i < 60; i++) {
            for (int j = i + 1; j <= 60; j++) {
                if (row.subList(i, i + 6).equals(row.subList(j, j + 6))) {
                    return what == 0 ? state.hour + i : j - i;
                }
            }
        }
        return -2;
    }

    int note(int n, int t) {
        if (n == -1) {
            notes = new ArrayList<>();
            return 0;
        }
        if (told == null || n < 0 || n > 60 || t != -1 && !isThing(t) || notes.size() == 10) {
            return -2;
        }
        notes.add(new int[] {n, t});
        return notes.size();
    }

    private Map<Integer, List<Integer>> suspects() {
        Map<Integer, List<Integer>> all = new java.util.TreeMap<>();
        for (int r = -1; r < rules.size(); r++) {
            List<Integer> row = new ArrayList<>();
            State s = begin();
            for (int h = 0; h <= 60; h++) {
                pass(s, r);
                row.add(s.last);
            }
            boolean so = true;
            for (int[] note : notes) {
                so &= row.get(note[0]) == note[1];
            }
            if (so) {
                all.put(r, row);
            }
        }
        return all;
    }

    int ruled(int what) {
        if (told == null || what < 0 || what > 1) {
            return -3;
        }
        Map<Integer, List<Integer>> all = suspects();
        return what == 0 ? all.size() : all.isEmpty() ? -2 : all.keySet().iterator().next();
    }

    int look(int what) {
        if (told == null || what < 0 || what > 1) {
            return -1;
        }
        Map<Integer, List<Integer>> all = suspects();
        if (all.isEmpty()) {
            return -2;
        }
        int best = -1;
        int fewest = 99;
        for (int h = 0; h <= 60; h++) {
            Map<Integer, Integer> alike = new HashMap<>();
            for (List<Integer> row : all.values()) {
                alike.merge(row.get(h), 1, Integer::sum);
            }
            int most = alike.values().stream().mapToInt(v -> v).max().getAsInt();
            if (most < fewest) {
                fewest = most;
                best = h;
            }
        }
        return what == 0 ? best : fewest;
    }

    int seed(int to) {
        if (to < 0) {
            return -1;
        }
        int was = (int) x;
        x = to;
        return was;
    }

    int years(int m, int n, int p, int what) {
        if (told == null || m < 1 || m > 10 || n < 1 || n > 60 || p < 0 || p > 100 || what < 0 || what > 1) {
            return -1;
        }
        long[] drawn = {x};
        int dubbings = 0;
        int ranks = 0;
        for (int i = 0; i < m; i++) {
            State s = state.copy();
            for (int h = 0; h < n; h++) {
                if (draw(drawn) % 100 < p && things() > 0) {
                    s.tray = draw(drawn) % things();
                }
                int bits = pass(s, force);
                dubbings += s.last >= 0 ? Integer.bitCount(bits) : 0;
            }
            for (int q = 0; q < people(); q++) {
                ranks += rank(s, q);
            }
        }
        return what == 0 ? dubbings : ranks;
    }

    private static int draw(long[] drawn) {
        drawn[0] = (drawn[0] * 1103515245L + 12345L) % 2147483648L;
        return (int) (drawn[0] / 65536);
    }

    int count(int what) {
        int knights = 0;
        for (int p = 0; p < people(); p++) {
            knights |= state.bits(p) != 0 ? 1 << p : 0;
        }
        int[] all = {told == null ? 0 : told.day, told == null ? 0 : told.owed, things(), people(),
            rules.size(), force, state.hour, state.last, state.tray, state.gloves, knights,
            notes.size(), past.size(), (int) x, tape.length()};
        return what < 0 || what >= all.length ? -1 : all[what];
    }

    int image(int k) {
        if (k < 0 || k > 3) {
            return -1;
        }
        images[k] = new Image(told, state.copy(), new ArrayList<>(past), new ArrayList<>(notes), force, x);
        return state.hour;
    }

    int back(int k) {
        if (k < 0 || k > 3 || images[k] == null) {
            return -1;
        }
        told = images[k].told;
        state = images[k].state.copy();
        past = new ArrayDeque<>();
        for (State s : images[k].past) {
            past.addLast(s.copy());
        }
        notes = new ArrayList<>(images[k].notes);
        force = images[k].force;
        x = images[k].x;
        return state.hour;
    }
}
