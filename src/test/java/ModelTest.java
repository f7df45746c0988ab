import java.lang.reflect.InvocationTargetException;
import java.lang.reflect.Method;
import java.math.BigInteger;
import java.nio.charset.StandardCharsets;
import java.util.ArrayDeque;
import java.util.ArrayList;
import java.util.Arrays;
import java.util.Deque;
import java.util.HashMap;
import java.util.LinkedHashSet;
import java.util.List;
import java.util.Map;
import java.util.NoSuchElementException;
import java.util.Random;
import java.util.Set;
import java.util.TreeMap;
import java.util.regex.Matcher;
import java.util.regex.Pattern;

/**
 * Random runs of calls on SowingHouse and on a slow model that was written from the document alone, with other
 * means (lists, maps, attractors): every answer and every exception's class must be the same.
 * Arguments, if any: first seed, number of runs.
 */
public final class ModelTest {
    // ---------------------------------------------------------------- the model

    static final class Rules {
        int n = 3;
        int lines;
        Set<Integer> lacking = new java.util.TreeSet<>();
        boolean stores, skip, again, feed;
        int relay;
        String take = "none";

        String key() {
            return n + "/" + lacking + stores + skip + again + feed + relay + take;
        }
    }

    record State(List<Integer> pits, int store0, int store1, int mover) {
        int seeds() {
            return pits.stream().mapToInt(x -> x).sum();
        }
    }

    /** What a move would do; null state: LONG. */
    record Done(State state, int last, int rounds, int taken, int brought) {
    }

    static final class Fault extends Exception {
        private static final long serialVersionUID = 1;
        final int kind;
        final int place;

        Fault(int kind, int place) {
            this.kind = kind;
            this.place = place;
        }
    }

    record Token(char kind, String text, int place) {
    }

    static final class Level {
        List<List<Integer>> positions;
        Map<List<Integer>, Integer> number = new HashMap<>();
        int[] value, rank, moves;
        boolean[] over;
    }

    public static final class Model {
        private Rules rules = new Rules();
        private State now = new State(zeros(6), 0, 0, 0);
        private final List<Integer> tape = new ArrayList<>();
        private int fault = 0, faultPlace = -1;
        private final List<State> before = new ArrayList<>();
        private final List<Integer> made = new ArrayList<>();
        private final Deque<Integer> undone = new ArrayDeque<>();
        private final long[][] trays = new long[4][];
        private final int[] sorts = new int[4];
        private final Object[][] images = new Object[3][];
        private static final Map<String, Map<String, Level>> SOLVED = new HashMap<>();

        static List<Integer> zeros(int n) {
            return new ArrayList<>(java.util.Collections.nCopies(n, 0));
        }

        // ---- the board

        public int feed(int a, int b, int c, int d, int e) {
            if (tape.size() > 480) {
                return -1;
            }
            for (int x : new int[] {a, b, c, d, e}) {
                for (byte y : BigInteger.valueOf((x & 0xffffffffL) | 1L << 32).toByteArray().length == 5
                        ? Arrays.copyOfRange(BigInteger.valueOf((x & 0xffffffffL) | 1L << 32).toByteArray(), 1, 5)
                        : new byte[0]) {
                    tape.add(y & 255);
                }
            }
            return tape.size();
        }

        public int board(int n) {
            if (n < 0 || n > tape.size()) {
                throw new IllegalArgumentException();
            }
            StringBuilder text = new StringBuilder();
            for (int i = 0; i < n; i++) {
                text.append((char) (int) tape.get(i));
            }
            tape.clear();
            try {
                readBoard(text.toString());
                fault = 0;
                faultPlace = -1;
                forget();
                return rules.lines;
            } catch (Fault f) {
                fault = f.kind;
                faultPlace = f.place;
                return -10 - fault;
            }
        }

        private void forget() {
            before.clear();
            made.clear();
            undone.clear();
        }

        static List<Token> tokens(String text) {
            List<Token> all = new ArrayList<>();
            Matcher m = Pattern.compile("([ \\n]+)|([a-z]+)|([0-9]+)|(;)|(.)", Pattern.DOTALL).matcher(text);
            while (m.find()) {
                if (m.group(2) != null) {
                    all.add(new Token('w', m.group(), m.start()));
                } else if (m.group(3) != null) {
                    all.add(new Token(m.group().length() > 3 ? '?' : 'n', m.group(), m.start()));
                } else if (m.group(4) != null) {
                    all.add(new Token(';', m.group(), m.start()));
                } else if (m.group(5) != null) {
                    all.add(new Token('?', m.group(), m.start()));
                }
            }
            all.add(new Token('e', "", text.length()));
            return all;
        }

        private void readBoard(String text) throws Fault {
            Rules r = new Rules();
            TreeMap<Integer, Integer> lay = new TreeMap<>();
            int[] stored = new int[2];
            int first = 0;
            List<Token> rest = tokens(text);
            while (true) {
                Token t = next(rest, "we");
                if (t.kind == 'e') {
                    break;
                }
                switch (t.text) {
                    case "pits" -> {
                        if (r.lines > 0) {
                            throw new Fault(2, t.place);
                        }
                        r.n = number(rest, 1, 6);
                    }
                    case "lay" -> {
                        int pit = 0;
                        do {
                            int place = rest.get(0).place;
                            int x = number(rest, 0, 20);
                            if (pit == 2 * r.n) {
                                throw new Fault(4, place);
                            }
                            lay.put(pit++, x);
                        } while (rest.get(0).kind == 'n');
                    }
                    case "stored" -> {
                        stored[0] = number(rest, 0, 99);
                        stored[1] = number(rest, 0, 99);
                    }
                    case "lacking" -> r.lacking.add(number(rest, 0, 2 * r.n - 1));
                    case "first" -> first = number(rest, 0, 1);
                    case "stores" -> r.stores = true;
                    case "skip" -> r.skip = true;
                    case "again" -> r.again = true;
                    case "feed" -> r.feed = true;
                    case "relay" -> r.relay = number(rest, 1, 20);
                    case "take" -> {
                        Token how = next(rest, "w");
                        if (!List.of("none", "opposite", "grand").contains(how.text)) {
                            throw new Fault(2, how.place);
                        }
                        r.take = how.text;
                        if (how.text.equals("grand") && rest.get(0).text.equals("starve")) {
                            rest.remove(0);
                            r.take = "starve";
                        }
                    }
                    default -> throw new Fault(2, t.place);
                }
                next(rest, ";");
                r.lines++;
            }
            List<Integer> pits = zeros(2 * r.n);
            int sum = 0;
            for (int p : lay.keySet()) {
                pits.set(p, lay.get(p));
                sum += lay.get(p);
                if (lay.get(p) > 0 && r.lacking.contains(p)) {
                    throw new Fault(5, text.length());
                }
            }
            if (sum > 40) {
                throw new Fault(5, text.length());
            }
            rules = r;
            now = new State(pits, stored[0], stored[1], first);
        }

        private static Token next(List<Token> rest, String kinds) throws Fault {
            Token t = rest.get(0);
            if (t.kind == '?') {
                throw new Fault(1, t.place);
            }
            if (kinds.indexOf(t.kind) < 0) {
                throw new Fault(2, t.place);
            }
            if (t.kind != 'e') {
                rest.remove(0);
            }
            return t;
        }

        private static int number(List<Token> rest, int least, int most) throws Fault {
            Token t = next(rest, "n");
            int x = Integer.parseInt(t.text);
            if (x < least || x > most) {
                throw new Fault(3, t.place);
            }
            return x;
        }

        public int fault(int what) {
            return what == 0 ? fault : what == 1 ? faultPlace : -1;
        }

        public int pit(int p) {
            if (p < 0 || p >= 2 * rules.n) {
                throw new NoSuchElementException();
            }
            return rules.lacking.contains(p) ? -1 : now.pits.get(p);
        }

        public int store(int side) {
            side(side);
            return side == 0 ? now.store0 : now.store1;
        }

        public int mover() {
            return now.mover;
        }

        // ---- moves

        private boolean ownedBy(int side, int cell) {
            return cell >= 0 && cell / rules.n == side;
        }

        /** THE WAY of a side: pits, and -1 for its store. */
        private List<Integer> way(int side) {
            List<Integer> way = new ArrayList<>();
            for (int half = 0; half < 2; half++) {
                int whose = half == 0 ? side : 1 - side;
                for (int i = 0; i < rules.n; i++) {
                    if (!rules.lacking.contains(whose * rules.n + i)) {
                        way.add(whose * rules.n + i);
                    }
                }
                if (half == 0 && rules.stores) {
                    way.add(-1);
                }
            }
            return way;
        }

        private Done done(State s, int p) {
            List<Integer> way = way(s.mover);
            List<Integer> pits = new ArrayList<>(s.pits);
            int own = 0;
            int start = p;
            int rounds = 0;
            int last;
            boolean had;
            if (rules.skip && way.size() == 1) {
                return new Done(null, 0, 0, 0, 0);
            }
            while (true) {
                int hand = pits.get(start);
                pits.set(start, 0);
                int at = way.indexOf(start);
                last = start;
                had = false;
                while (hand > 0) {
                    at = (at + 1) % way.size();
                    int cell = way.get(at);
                    if (rules.skip && cell == start) {
                        continue;
                    }
                    last = cell;
                    hand--;
                    if (cell == -1) {
                        own++;
                        had = false;
                    } else {
                        had = pits.get(cell) > 0;
                        pits.set(cell, pits.get(cell) + 1);
                    }
                }
                if (rules.relay == 0 || last == -1 || !had) {
                    break;
                }
                rounds++;
                if (rounds > rules.relay) {
                    return new Done(null, 0, 0, 0, 0);
                }
                start = last;
            }
            int taken = 0;
            if (rules.take.equals("opposite") && ownedBy(s.mover, last) && !had) {
                int facing = 2 * rules.n - 1 - last;
                if (!rules.lacking.contains(facing) && pits.get(facing) > 0) {
                    taken = pits.get(facing) + pits.get(last);
                    pits.set(facing, 0);
                    pits.set(last, 0);
                }
            } else if (rules.take.equals("grand") || rules.take.equals("starve")) {
                List<Integer> old = new ArrayList<>(pits);
                int at = way.indexOf(last);
                while (at >= 0 && ownedBy(1 - s.mover, way.get(at))
                        && (pits.get(way.get(at)) == 2 || pits.get(way.get(at)) == 3)) {
                    taken += pits.get(way.get(at));
                    pits.set(way.get(at), 0);
                    at--;
                }
                if (rules.take.equals("starve") && taken > 0 && row(pits, 1 - s.mover) == 0) {
                    pits = old;
                    taken = 0;
                }
            }
            own += taken;
            int mover = rules.again && last == -1 ? s.mover : 1 - s.mover;
            return new Done(new State(pits, s.store0 + (s.mover == 0 ? own : 0), s.store1 + (s.mover == 1 ? own : 0), mover),
                    last, rounds, taken, own);
        }

        private int row(List<Integer> pits, int side) {
            return pits.subList(side * rules.n, side * rules.n + rules.n).stream().mapToInt(x -> x).sum();
        }

        private int why(State s, long p) {
            if (moves(s).isEmpty()) {
                return 5;
            }
            return whyNotOver(s, p);
        }

        private int whyNotOver(State s, long p) {
            if (p < 0 || p >= 2 * rules.n || p / rules.n != s.mover || rules.lacking.contains((int) p)) {
                return 1;
            }
            if (s.pits.get((int) p) == 0) {
                return 2;
            }
            Done d = done(s, (int) p);
            if (d.state == null) {
                return 3;
            }
            if (rules.feed && row(d.state.pits, 1 - s.mover) == 0) {
                for (int q = 0; q < 2 * rules.n; q++) {
                    if (q != p && q / rules.n == s.mover && s.pits.get(q) > 0) {
                        Done e = done(s, q);
                        if (e.state != null && row(e.state.pits, 1 - s.mover) > 0) {
                            return 4;
                        }
                    }
                }
            }
            return 0;
        }

        private List<Integer> moves(State s) {
            List<Integer> all = new ArrayList<>();
            for (int p = 0; p < 2 * rules.n; p++) {
                if (whyNotOver(s, p) == 0) {
                    all.add(p);
                }
            }
            return all;
        }

        public int may(int p) {
            return why(now, p);
        }

        public int move(int p) {
            int why = why(now, p);
            if (why != 0) {
                return -why;
            }
            undone.clear();
            return make(p);
        }

        private int make(int p) {
            Done d = done(now, p);
            before.add(now);
            made.add(p);
            if (made.size() > 40) {
                before.remove(0);
                made.remove(0);
            }
            now = d.state;
            return d.brought;
        }

        public int sown(int p, int what) {
            int why = whyNotOver(now, p);
            if (why == 1 || why == 2) {
                throw new NoSuchElementException();
            }
            Done d = done(now, p);
            if (d.state == null) {
                throw new IllegalStateException();
            }
            return switch (what) {
                case 0 -> d.last;
                case 1 -> d.rounds;
                case 2 -> d.taken;
                case 3 -> d.state.mover;
                default -> throw new IllegalArgumentException();
            };
        }

        public boolean undo() {
            if (made.isEmpty()) {
                return false;
            }
            undone.push(made.remove(made.size() - 1));
            now = before.remove(before.size() - 1);
            return true;
        }

        public boolean redo() {
            if (undone.isEmpty()) {
                return false;
            }
            make(undone.pop());
            return true;
        }

        public boolean over() {
            return moves(now).isEmpty();
        }

        private int scoreOf(State s) {
            int score = s.store0 - s.store1;
            return moves(s).isEmpty() ? score + row(s.pits, 0) - row(s.pits, 1) : score;
        }

        public int score() {
            return scoreOf(now);
        }

        private long[] laid(int tray) {
            if (tray < 0 || tray > 3) {
                throw new NoSuchElementException();
            }
            if (trays[tray] == null) {
                throw new IllegalStateException();
            }
            return trays[tray];
        }

        public int judge(int tray, int what) {
            long[] row = laid(tray);
            if (what < 0 || what > 3) {
                throw new IllegalArgumentException();
            }
            State s = now;
            int place = -1;
            int why = 0;
            for (int i = 0; i < row.length; i++) {
                why = why(s, row[i]);
                if (why != 0) {
                    place = i;
                    break;
                }
                s = done(s, (int) row[i]).state;
            }
            return new int[] {place, why, scoreOf(s), s.mover}[what];
        }

        public int perform(int tray) {
            long[] row = laid(tray);
            int many = 0;
            for (long p : row) {
                if (why(now, p) != 0) {
                    break;
                }
                move((int) p);
                many++;
            }
            return many;
        }

        // ---- positions

        private static void side(int side) {
            if (side != 0 && side != 1) {
                throw new NoSuchElementException();
            }
        }

        private static void seeds(int s) {
            if (s < 0 || s > 40) {
                throw new IllegalArgumentException();
            }
        }

        private BigInteger howMany(int s) {
            int m = 2 * rules.n - rules.lacking.size();
            if (m == 0) {
                return s == 0 ? BigInteger.ONE : BigInteger.ZERO;
            }
            BigInteger ways = BigInteger.ONE;
            for (int i = 1; i < m; i++) {
                ways = ways.multiply(BigInteger.valueOf(s + i)).divide(BigInteger.valueOf(i));
            }
            return ways;
        }

        private boolean isSpent(int s) {
            return howMany(s).compareTo(BigInteger.valueOf(6000)) > 0;
        }

        private boolean isSolved(int s) {
            BigInteger sum = BigInteger.ZERO;
            for (int i = 0; i <= s; i++) {
                sum = sum.add(howMany(i));
            }
            return sum.compareTo(BigInteger.valueOf(6000)) <= 0;
        }

        public int positions(int side, int s) {
            side(side);
            seeds(s);
            return isSpent(s) ? -1000 : howMany(s).intValue();
        }

        private List<Integer> view(State s) {
            List<Integer> view = new ArrayList<>(s.pits.subList(s.mover * rules.n, s.mover * rules.n + rules.n));
            view.addAll(s.pits.subList((1 - s.mover) * rules.n, (1 - s.mover) * rules.n + rules.n));
            return view;
        }

        private State unview(List<Integer> view, int side) {
            List<Integer> pits = zeros(2 * rules.n);
            for (int i = 0; i < 2 * rules.n; i++) {
                pits.set((i + side * rules.n) % (2 * rules.n), view.get(i));
            }
            return new State(pits, 0, 0, side);
        }

        private void list(int side, int i, int left, List<Integer> head, List<List<Integer>> all) {
            if (i == 2 * rules.n) {
                if (left == 0) {
                    all.add(new ArrayList<>(head));
                }
                return;
            }
            boolean lacks = rules.lacking.contains((i + side * rules.n) % (2 * rules.n));
            for (int x = lacks ? 0 : left; x >= 0; x--) {
                head.add(x);
                list(side, i + 1, left - x, head, all);
                head.remove(head.size() - 1);
            }
        }

        /** Positions alone; values only once it is solved. */
        private Level level(int side, int s) {
            Map<String, Level> mine = SOLVED.computeIfAbsent(rules.key(), k -> new HashMap<>());
            return mine.computeIfAbsent(side + "," + s, k -> {
                Level l = new Level();
                l.positions = new ArrayList<>();
                list(side, 0, s, new ArrayList<>(), l.positions);
                for (int i = 0; i < l.positions.size(); i++) {
                    l.number.put(l.positions.get(i), i);
                }
                return l;
            });
        }

        private Level solved(int side, int s) {
            for (int i = 0; i <= s; i++) {
                if (level(0, i).value == null) {
                    solve(i);
                }
            }
            return level(side, s);
        }

        /** Exits and inner links of all positions of s seeds, then values by attractors, ranks by turns. */
        private void solve(int s) {
            Level[] both = {level(0, s), level(1, s)};
            int many = both[0].positions.size();
            List<List<int[]>> links = new ArrayList<>();
            List<List<Integer>> exits = new ArrayList<>();
            int[] ends = new int[2 * many];
            boolean[] over = new boolean[2 * many];
            for (int i = 0; i < 2 * many; i++) {
                links.add(new ArrayList<>());
                exits.add(new ArrayList<>());
                int side = i / many;
                State at = unview(both[side].positions.get(i % many), side);
                List<Integer> moves = moves(at);
                if (moves.isEmpty()) {
                    over[i] = true;
                    ends[i] = row(at.pits, side) - row(at.pits, 1 - side);
                }
                for (int p : moves) {
                    Done d = done(at, p);
                    int left = d.state.seeds();
                    int sign = d.state.mover == side ? 1 : -1;
                    if (left < s) {
                        Level l = solved(d.state.mover, left);
                        exits.get(i).add(d.brought + sign * l.value[l.number.get(view(d.state))]);
                    } else {
                        int to = d.state.mover * many + both[d.state.mover].number.get(view(d.state));
                        links.get(i).add(new int[] {to, sign});
                    }
                }
            }
            int[] value = byAttractors(s, many, links, exits, ends, over);
            int[] rank = ranks(many, links, exits, ends, over, value);
            for (int side = 0; side < 2; side++) {
                both[side].value = Arrays.copyOfRange(value, side * many, side * many + many);
                both[side].rank = Arrays.copyOfRange(rank, side * many, side * many + many);
                both[side].over = Arrays.copyOfRange(over, side * many, side * many + many);
            }
        }

        /** For each t above 0 and each side: from where that side can force t or more for itself, and an end. */
        private static int[] byAttractors(int s, int many, List<List<int[]>> links, List<List<Integer>> exits, int[] ends, boolean[] over) {
            int[] value = new int[2 * many];
            for (int t = 1; t <= Math.max(1, s); t++) {
                for (int who = 0; who < 2; who++) {
                    boolean[] in = new boolean[2 * many];
                    boolean grown = true;
                    while (grown) {
                        grown = false;
                        for (int i = 0; i < 2 * many; i++) {
                            if (!in[i] && forces(i, i / many == who, t, in, links, exits, ends, over)) {
                                in[i] = true;
                                grown = true;
                                value[i] = i / many == who ? t : -t;
                            }
                        }
                    }
                }
            }
            return value;
        }

        private static boolean forces(int i, boolean mine, int t, boolean[] in, List<List<int[]>> links, List<List<Integer>> exits, int[] ends, boolean[] over) {
            if (over[i]) {
                return (mine ? ends[i] : -ends[i]) >= t;
            }
            if (mine) {
                return exits.get(i).stream().anyMatch(x -> x >= t) || links.get(i).stream().anyMatch(l -> in[l[0]]);
            }
            return exits.get(i).stream().allMatch(x -> -x >= t) && links.get(i).stream().allMatch(l -> in[l[0]]);
        }

        private static int[] ranks(int many, List<List<int[]>> links, List<List<Integer>> exits, int[] ends, boolean[] over, int[] value) {
            int[] rank = new int[2 * many];
            int[] v = ends.clone();
            for (int n = 0; n <= 2 * many + 2; n++) {
                int[] w = new int[2 * many];
                boolean all = true;
                for (int i = 0; i < 2 * many; i++) {
                    if (v[i] != value[i]) {
                        rank[i] = n + 1;
                        all = false;
                    }
                    w[i] = over[i] ? ends[i] : Integer.MIN_VALUE;
                    for (int x : exits.get(i)) {
                        w[i] = Math.max(w[i], x);
                    }
                    for (int[] l : links.get(i)) {
                        w[i] = Math.max(w[i], l[1] * v[l[0]]);
                    }
                }
                if (all && Arrays.equals(v, w)) {
                    return rank;
                }
                v = w;
            }
            throw new AssertionError("values by turns don't come to those by attractors");
        }

        public int place() {
            return isSpent(now.seeds()) ? -1000 : level(now.mover, now.seeds()).number.get(view(now));
        }

        public int ofPlace(int side, int s, int k, int i) {
            side(side);
            seeds(s);
            if (isSpent(s)) {
                throw new IllegalStateException();
            }
            Level l = level(side, s);
            if (k < 0 || k >= l.positions.size()) {
                throw new NoSuchElementException();
            }
            if (i < 0 || i >= 2 * rules.n) {
                throw new IndexOutOfBoundsException();
            }
            return rules.lacking.contains((i + side * rules.n) % (2 * rules.n)) ? -1 : l.positions.get(k).get(i);
        }

        // ---- best play

        private int valueOf(State s) {
            Level l = solved(s.mover, s.seeds());
            return l.value[l.number.get(view(s))];
        }

        private int rankOf(State s) {
            Level l = solved(s.mover, s.seeds());
            return l.rank[l.number.get(view(s))];
        }

        private int worthOf(State s, int p) {
            Done d = done(s, p);
            return d.brought + (d.state.mover == s.mover ? valueOf(d.state) : -valueOf(d.state));
        }

        private int bestOf(State s) {
            int best = -1;
            int least = Integer.MAX_VALUE;
            for (int p : moves(s)) {
                if (worthOf(s, p) == valueOf(s)) {
                    State t = done(s, p).state;
                    int rank = t.seeds() < s.seeds() ? 0 : rankOf(t);
                    if (rank < least) {
                        least = rank;
                        best = p;
                    }
                }
            }
            return best;
        }

        public int value() {
            return isSolved(now.seeds()) ? valueOf(now) : -1000;
        }

        public int rank() {
            return isSolved(now.seeds()) ? rankOf(now) : -1;
        }

        public int best() {
            return isSolved(now.seeds()) ? bestOf(now) : -1;
        }

        public int worth(int p) {
            return isSolved(now.seeds()) && why(now, p) == 0 ? worthOf(now, p) : -1000;
        }

        private Level levelOf(int side, int s) {
            if (!isSolved(s)) {
                throw new IllegalStateException();
            }
            return solved(side, s);
        }

        public int valueOf(int side, int s, int k) {
            side(side);
            seeds(s);
            Level l = levelOf(side, s);
            if (k < 0 || k >= l.positions.size()) {
                throw new NoSuchElementException();
            }
            return l.value[k];
        }

        public int tally(int side, int s, int what) {
            side(side);
            seeds(s);
            if (what < 0 || what > 3) {
                throw new IllegalArgumentException();
            }
            Level l = levelOf(side, s);
            int many = 0;
            for (int k = 0; k < l.positions.size(); k++) {
                int v = l.value[k];
                many += what == 0 && v > 0 || what == 1 && v == 0 || what == 2 && v < 0 || what == 3 && l.over[k] ? 1 : 0;
            }
            return many;
        }

        public int row(int side, int s, int k, int what) {
            valueOf(side, s, k);
            Level l = levelOf(side, s);
            State at = unview(l.positions.get(k), side);
            if (what == 0) {
                return l.rank[k];
            }
            if (what == 1) {
                return l.over[k] ? -1 : bestOf(at) % rules.n;
            }
            if (what == 2) {
                return moves(at).size();
            }
            if (what == 3) {
                return (int) moves(at).stream().filter(p -> worthOf(at, p) == l.value[k]).count();
            }
            if (what < 10 || what > 9 + rules.n) {
                throw new IllegalArgumentException();
            }
            int p = side * rules.n + what - 10;
            return why(at, p) == 0 ? worthOf(at, p) : -1000;
        }

        public int find(int side, int s, int value, int k) {
            side(side);
            seeds(s);
            Level l = levelOf(side, s);
            List<Integer> all = new ArrayList<>();
            for (int i = 0; i < l.value.length; i++) {
                if (l.value[i] == value) {
                    all.add(i);
                }
            }
            return k >= 0 && k < all.size() ? all.get(k) : -1;
        }

        public int most(int side, int s, int what) {
            side(side);
            seeds(s);
            if (what < 0 || what > 5) {
                throw new IllegalArgumentException();
            }
            Level l = levelOf(side, s);
            int[] of = what < 4 ? l.value : l.rank;
            if (of.length == 0) {
                return -1;
            }
            int found = what == 2 || what == 3 ? Arrays.stream(of).min().getAsInt() : Arrays.stream(of).max().getAsInt();
            if (what % 2 == 0) {
                return found;
            }
            int i = 0;
            while (of[i] != found) {
                i++;
            }
            return i;
        }

        public int swapped() {
            return isSolved(now.seeds()) ? valueOf(new State(now.pits, 0, 0, 1 - now.mover)) : -1000;
        }

        public int line(int k) {
            if (k < -3) {
                throw new IllegalArgumentException();
            }
            if (!isSolved(now.seeds())) {
                throw new IllegalStateException();
            }
            List<Integer> line = new ArrayList<>();
            Set<State> were = new LinkedHashSet<>();
            State s = now;
            boolean again = false;
            were.add(new State(s.pits, 0, 0, s.mover));
            while (line.size() < 60 && !again && !moves(s).isEmpty()) {
                int p = bestOf(s);
                s = done(s, p).state;
                line.add(p);
                again = !were.add(new State(s.pits, 0, 0, s.mover));
            }
            return switch (k) {
                case -1 -> line.size();
                case -2 -> again ? 1 : 0;
                case -3 -> scoreOf(s);
                default -> k < line.size() ? line.get(k) : -1;
            };
        }

        // ---- plays

        public int plays(int d) {
            if (d < 0 || d > 5) {
                throw new IllegalArgumentException();
            }
            List<State> at = List.of(now);
            for (int i = 0; i < d; i++) {
                List<State> then = new ArrayList<>();
                for (State s : at) {
                    moves(s).forEach(p -> then.add(done(s, p).state));
                }
                at = then;
            }
            return at.size();
        }

        public int reached(int d) {
            if (d < 0 || d > 4) {
                throw new IllegalArgumentException();
            }
            Set<State> at = Set.of(now);
            for (int i = 0; i < d; i++) {
                Set<State> then = new LinkedHashSet<>();
                for (State s : at) {
                    moves(s).forEach(p -> then.add(done(s, p).state));
                }
                at = then;
            }
            return at.size();
        }

        /** Breadth first; rows in order, those alike kept once, the first of them. */
        public int soonest(int k) {
            Map<State, List<Integer>> at = new java.util.LinkedHashMap<>();
            at.put(now, List.of());
            for (int i = 0; i <= 6; i++) {
                Map<State, List<Integer>> then = new java.util.LinkedHashMap<>();
                for (Map.Entry<State, List<Integer>> e : at.entrySet()) {
                    List<Integer> moves = moves(e.getKey());
                    if (moves.isEmpty()) {
                        List<Integer> way = e.getValue();
                        return k == -1 ? way.size() : k >= 0 && k < way.size() ? way.get(k) : -1;
                    }
                    for (int p : moves) {
                        List<Integer> longer = new ArrayList<>(e.getValue());
                        longer.add(p);
                        then.putIfAbsent(done(e.getKey(), p).state, longer);
                    }
                }
                at = then;
            }
            return -1;
        }

        public int pits(int what) {
            if (what < 0 || what > 2) {
                throw new IllegalArgumentException();
            }
            int bits = 0;
            for (int p : moves(now)) {
                Done d = done(now, p);
                boolean yes = what == 0 ? d.last == -1 : what == 1 ? d.taken > 0 : row(d.state.pits, 1 - now.mover) == 0;
                bits |= yes ? 1 << p : 0;
            }
            return bits;
        }

        public int forced() {
            State s = now;
            int many = 0;
            while (many < 60 && moves(s).size() == 1) {
                s = done(s, moves(s).get(0)).state;
                many++;
            }
            return many;
        }

        private int played(int seed, int what, boolean bestForOne) {
            if (what < 0 || what > 2) {
                throw new IllegalArgumentException();
            }
            long x = seed;
            State s = now;
            int many = 0;
            while (many < 100 && !moves(s).isEmpty()) {
                int p;
                if (bestForOne && s.mover == 1) {
                    p = bestOf(s);
                } else {
                    x = (1103515245L * x + 12345) & 0xffffffffL;
                    p = moves(s).get((int) (x / 65536 % moves(s).size()));
                }
                s = done(s, p).state;
                many++;
            }
            return new int[] {scoreOf(s), many, moves(s).isEmpty() ? 1 : 0}[what];
        }

        public int play(int seed, int what) {
            return played(seed, what, false);
        }

        public int against(int seed, int what) {
            if (!isSolved(now.seeds())) {
                throw new IllegalStateException();
            }
            return played(seed, what, true);
        }

        // ---- trays, images

        public void tray(int tray, int sort, int many) {
            if (tray < 0 || tray > 3) {
                throw new NoSuchElementException();
            }
            if (sort < 0 || sort > 3 || many < 0 || many > 40) {
                throw new IllegalArgumentException();
            }
            trays[tray] = new long[many];
            sorts[tray] = sort;
        }

        public long write(int tray, int place, long v) {
            long[] row = laid(tray);
            if (place < 0 || place >= row.length) {
                throw new IndexOutOfBoundsException();
            }
            int shift = 64 - (8 << sorts[tray]);
            row[place] = v << shift >> shift;
            return row[place];
        }

        public int pour(int tray) {
            long[] row = laid(tray);
            int i = 0;
            while (i < row.length && i < made.size()) {
                row[i] = made.get(i);
                i++;
            }
            return i;
        }

        public void image(int i) {
            if (i < 0 || i > 2) {
                throw new NoSuchElementException();
            }
            images[i] = new Object[] {rules, now};
        }

        public void restore(int i) {
            if (i < 0 || i > 2) {
                throw new NoSuchElementException();
            }
            if (images[i] == null) {
                throw new IllegalStateException();
            }
            rules = (Rules) images[i][0];
            now = (State) images[i][1];
            forget();
        }

        public int count(int what) {
            return switch (what) {
                case 0 -> rules.lines;
                case 1 -> rules.n;
                case 2 -> now.seeds();
                case 3 -> rules.lacking.size();
                case 4 -> made.size();
                case 5 -> undone.size();
                case 6 -> tape.size();
                default -> -1;
            };
        }
    }

    // ---------------------------------------------------------------- the runs

    private static final List<Method> FACE = new ArrayList<>();
    private static final Map<Method, Method> TWIN = new HashMap<>();
    private static int wrong = 0;

    /** What an object answers behind its 512th call is free. */
    private static final int CALLS = 512;

    private final Random random;
    private SowingHouse house = new SowingHouse();
    private Model model = new Model();
    private int made = 0;
    private final List<String> told = new ArrayList<>();
    private final int run;

    private ModelTest(int run) {
        this.run = run;
        random = new Random(run);
    }

    private static String answer(Object on, Method m, Object... args) {
        try {
            return String.valueOf(m.invoke(on, args));
        } catch (InvocationTargetException e) {
            return "throws " + e.getCause().getClass().getName();
        } catch (IllegalAccessException e) {
            throw new AssertionError(e);
        }
    }

    private String both(Method m, Object... args) {
        made++;
        String got = answer(house, m, args);
        String due = answer(model, TWIN.get(m), args);
        told.add(m.getName() + Arrays.toString(args) + " = " + got);
        if (!got.equals(due)) {
            wrong++;
            if (wrong < 10) {
                told.forEach(System.out::println);
                System.out.println("run " + run + ": the latest of these calls answered " + got + ", due is " + due);
            }
        }
        return got;
    }

    private static Method face(String name) {
        return FACE.stream().filter(m -> m.getName().equals(name)).findFirst().get();
    }

    private int upTo(int n) {
        return random.nextInt(n + 1);
    }

    private String boardText() {
        StringBuilder text = new StringBuilder();
        int n = 3;
        if (upTo(9) > 0) {
            n = 1 + upTo(5);
            text.append("pits ").append(n).append(';');
        }
        List<String> lines = new ArrayList<>();
        int most = n < 3 ? 5 : n < 4 ? 4 : 1 + upTo(1);
        StringBuilder lay = new StringBuilder("lay");
        int told = 1 + upTo(upTo(1) == 0 ? Math.min(5, 2 * n - 1) : 2 * n - 1);
        int full = upTo(6) == 0 ? 20 : most;
        for (int i = 0; i < told; i++) {
            lay.append(' ').append(upTo(2) == 0 ? 0 : upTo(full));
        }
        if (upTo(12) > 0) {
            lines.add(lay.toString());
        }
        if (upTo(3) == 0) {
            lines.add("lay" + (" " + upTo(most)).repeat(1 + upTo(2 * n - 1)));
        }
        for (String flag : List.of("stores", "skip", "again", "feed")) {
            if (upTo(1) == 0) {
                lines.add(flag);
            }
        }
        if (upTo(3) > 0) {
            lines.add("take " + List.of("none", "opposite", "grand", "grand starve").get(upTo(3)));
        }
        if (upTo(3) == 0) {
            lines.add("relay " + (1 + upTo(upTo(1) == 0 ? 4 : 19)));
        }
        if (upTo(2) == 0) {
            lines.add("first " + upTo(1));
        }
        if (upTo(2) == 0) {
            lines.add("stored " + upTo(99) + " " + upTo(99));
        }
        for (int i = upTo(3) == 0 ? upTo(2 * n) : 0; i > 0; i--) {
            int p = upTo(2 * n - 1);
            lines.add("lacking " + p);
            if (upTo(9) > 0) {
                dropSeeds(lines, p);
            }
        }
        java.util.Collections.shuffle(lines, random);
        for (String line : lines) {
            text.append(upTo(9) == 0 ? " \n" : "").append(line).append(upTo(9) == 0 ? " " : "").append(';');
        }
        return upTo(5) == 0 ? spoilt(text.toString()) : text.toString();
    }

    private static void dropSeeds(List<String> lines, int p) {
        for (int i = 0; i < lines.size(); i++) {
            String[] words = lines.get(i).split(" ");
            if (words[0].equals("lay") && p + 1 < words.length) {
                words[p + 1] = "0";
                lines.set(i, String.join(" ", words));
            }
        }
    }

    private String spoilt(String text) {
        StringBuilder s = new StringBuilder(text);
        for (int i = upTo(2); i >= 0 && s.length() > 0; i--) {
            int at = upTo(s.length() - 1);
            String[] some = {"", ";", "1", "21", "0000", "pits", "x", "A", "" + (char) 233, " 7 ", "lay 1", "-", "\t", "grand", "starve", " "};
            switch (upTo(3)) {
                case 0 -> s.deleteCharAt(at);
                case 1 -> s.insert(at, some[upTo(some.length - 1)]);
                case 2 -> s.setLength(at);
                default -> s.append(some[upTo(some.length - 1)]);
            }
        }
        return s.toString();
    }

    private void feedText(String text) {
        byte[] bytes = (text + " ".repeat(20)).getBytes(StandardCharsets.ISO_8859_1);
        for (int i = 0; i < text.length(); i += 20) {
            Object[] five = new Object[5];
            for (int j = 0; j < 5; j++) {
                int x = 0;
                for (int k = 0; k < 4; k++) {
                    x = x << 8 | bytes[Math.min(i + 4 * j + k, bytes.length - 1)] & 255;
                }
                five[j] = x;
            }
            both(face("feed"), five);
        }
        told.add("  " + text.replace("\n", "\\n"));
    }

    private void board() {
        String text = boardText();
        if (text.length() > 480) {
            text = text.substring(0, 480);
        }
        feedText(text);
        both(face("board"), upTo(30) == 0 ? upTo(40) - 10 : text.length());
        both(face("fault"), 0);
        both(face("fault"), 1);
    }

    private int someNumber(String name) {
        switch (upTo(12)) {
            case 0:
                return new int[] {Integer.MIN_VALUE, Integer.MAX_VALUE, -1, -2, -3, -4, 40, 41, 100, 1 << 16}[upTo(9)];
            case 1:
                return upTo(15) - 2;
            case 2:
                return upTo(50) - 5;
            default:
                return name.equals("may") || name.equals("move") || name.equals("sown") || name.equals("worth")
                        ? model.now.mover * model.rules.n + upTo(model.rules.n) : upTo(4) - (upTo(9) == 0 ? 1 : 0);
        }
    }

    private Object[] someArguments(Method m) {
        Class<?>[] types = m.getParameterTypes();
        Object[] args = new Object[types.length];
        for (int i = 0; i < types.length; i++) {
            args[i] = types[i] == long.class ? (Object) someLong() : (Object) someNumber(m.getName());
        }
        boolean wild = upTo(9) == 0;
        switch (m.getName()) {
            case "positions", "ofPlace", "valueOf", "tally", "row", "find", "most" -> {
                if (!wild) {
                    args[0] = upTo(1);
                    args[1] = upTo(2) == 0 ? upTo(9) : Math.max(0, model.now.seeds() - upTo(2));
                    if (m.getName().equals("ofPlace") || m.getName().equals("valueOf") || m.getName().equals("row")) {
                        args[2] = upTo(20 + upTo(2) * 300);
                    }
                    if (m.getName().equals("row") || m.getName().equals("ofPlace")) {
                        args[3] = m.getName().equals("row") && upTo(1) == 0 ? 10 + upTo(6) : upTo(6);
                    }
                    if (m.getName().equals("find")) {
                        args[2] = upTo(8) - 4;
                        args[3] = upTo(30);
                    }
                    if (m.getName().equals("tally") || m.getName().equals("most")) {
                        args[2] = upTo(6);
                    }
                }
            }
            case "play", "against" -> args[0] = random.nextInt();
            case "line" -> args[0] = upTo(9) - 3;
            case "soonest" -> args[0] = upTo(8) - 2;
            case "tray" -> args[2] = wild ? args[2] : (Object) upTo(12);
            default -> {
            }
        }
        return args;
    }

    private long someLong() {
        return switch (upTo(9)) {
            case 0 -> random.nextLong();
            case 1 -> (1L << 8 * (1 + upTo(6))) + upTo(5);
            default -> model.now.mover * model.rules.n + (long) upTo(model.rules.n);
        };
    }

    private void go(int calls) {
        board();
        for (int i = 0; i < calls && made < CALLS - 40; i++) {
            int what = upTo(60);
            if (what == 0) {
                board();
            } else if (what < 12 && !model.moves(model.now).isEmpty()) {
                List<Integer> moves = model.moves(model.now);
                both(face("move"), moves.get(upTo(moves.size() - 1)));
            } else {
                Method m = FACE.get(upTo(FACE.size() - 1));
                if (!m.getName().equals("feed") && !m.getName().equals("board")) {
                    both(m, someArguments(m));
                }
            }
            if (upTo(3) == 0) {
                both(face("pit"), upTo(2 * model.rules.n - 1));
                both(face("store"), upTo(1));
                both(face("mover"));
            }
        }
    }

    /** Boards that random ones seldom come near: full ones, those with most positions, lines of just 60 moves. */
    private static final String[] BOARDS = {
        "pits 6;lay 3 3 3 3 3 3 3 3 3 3 3 3;",
        "pits 6;lay 3 3 3 3 3 3 3 3 3 3 3 3;stores;again;take opposite;skip;first 1;",
        "pits 6;lay 4 4 2 2 1 4 4 4 3 3 3 3;take grand starve;feed;",
        "pits 6;lay 0 0 0 0 0 1 0 0 0 0 0 2;stores;stored 1 0;take grand;",
        "pits 6;lay 1 2 1 1 2 1 1 0 1 1 0 1;relay 20;stores;skip;",
        "pits 4;lay 0 1 0 0 0 2 0 3;feed;",
        "pits 4;lay 2 2 2 0 0 0 0 0;feed;relay 17;",
        "pits 3;lay 4 2 0 2 0 1;skip;feed;relay 14;",
        "pits 2;lay 4 4 5 4;take grand;feed;first 1;",
        "pits 2;lay 11 9 11;lacking 3;take opposite;relay 20;",
        "pits 2;lay 0 14 10 7;lacking 0;stores;again;first 1;",
        "pits 1;lay 20 20;stores;again;take opposite;",
        "pits 5;lay 1 1 0 1 1 1 0 0 1;lacking 9;take grand;feed;",
        "pits 6;lay 1 1 0 1 1 0 1;lacking 11;take opposite;stores;first 1;",
        "pits 6;lay 0 1 0 0 1 0 1 1;take grand;feed;",
        "pits 1;lacking 0;lacking 1;stores;stored 3 1;",
    };

    /** A new object with the same board, before the calls of this one run out. */
    private void renew(String text) {
        if (made == 0 || made > CALLS - 60) {
            house = new SowingHouse();
            model = new Model();
            made = 0;
            told.add("new");
            feedText(text);
            both(face("board"), text.length());
        }
    }

    private void goOver(String text) {
        renew(text);
        for (String name : List.of("over", "score", "place", "value", "rank", "best", "swapped", "forced")) {
            both(face(name));
        }
        for (int k = -4; k < 62; k++) {
            renew(text);
            for (String name : List.of("line", "plays", "reached", "soonest", "pits", "may", "worth")) {
                if (k < 12 || name.equals("line")) {
                    both(face(name), k);
                }
            }
        }
        for (int seed = 0; seed < 6; seed++) {
            renew(text);
            for (int what = 0; what < 3; what++) {
                both(face("play"), seed * 77777, what);
                both(face("against"), seed * 77777, what);
            }
        }
        for (int side = 0; side < 2; side++) {
            for (int s = 0; s <= Math.min(40, model.now.seeds() + 1); s++) {
                renew(text);
                both(face("positions"), side, s);
                for (int what = 0; what < 7; what++) {
                    both(face("tally"), side, s, what);
                    both(face("most"), side, s, what);
                    both(face("find"), side, s, what - 3, what * s);
                }
                for (int k = 0; k < 3100; k += 1 + random.nextInt(400)) {
                    renew(text);
                    both(face("valueOf"), side, s, k);
                    both(face("ofPlace"), side, s, k, k % 13);
                    both(face("row"), side, s, k, k % 5);
                    both(face("row"), side, s, k, 10 + k % 7);
                }
            }
        }
    }

    public static void main(String[] args) throws Exception {
        int first = args.length > 0 ? Integer.parseInt(args[0]) : 1;
        int runs = args.length > 1 ? Integer.parseInt(args[1]) : 400;
        for (Method m : SowingHouse.class.getDeclaredMethods()) {
            if (java.lang.reflect.Modifier.isPublic(m.getModifiers())) {
                FACE.add(m);
                TWIN.put(m, Model.class.getMethod(m.getName(), m.getParameterTypes()));
            }
        }
        FACE.sort((a, b) -> a.getName().compareTo(b.getName()));
        int calls = 0;
        for (int i = 0; i < BOARDS.length; i++) {
            ModelTest test = new ModelTest(-1 - i);
            test.goOver(BOARDS[i]);
            calls += test.told.size();
        }
        for (int run = first; run < first + runs; run++) {
            ModelTest test = new ModelTest(run);
            test.go(150);
            calls += test.told.size();
            Model.SOLVED.clear();
        }
        System.out.println(BOARDS.length + " boards, " + runs + " runs, " + calls + " calls, " + wrong + " wrong");
        if (wrong > 0 || FACE.size() != 42) {
            System.exit(1);
        }
    }
}
