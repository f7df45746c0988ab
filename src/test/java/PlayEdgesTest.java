import java.util.ArrayList;
import java.util.HashSet;
import java.util.List;
import java.util.Map;
import java.util.Set;
import java.util.TreeMap;

/** The edges that promises 31 to 43 name: rows of moves, ends, plays by draws, trays, images, counts. */
public final class PlayEdgesTest {
    private static final String FOUR = "pits 2;lay 1 1 1 1;";
    private static final String RING = "pits 1;lay 1 1;stored 4 5;";
    private static final String NOT_SOLVED = "pits 6;lay 5;";

    // ---- promises 31 and 32

    private static void plays() {
        Due.says(31, "PLAYS of d (0 to 5): how many rows of just d MOVES one can make, one behind the other.");
        dueEach("plays", new int[] {1, 1, 1, 1, 1, 1}, Due.house(RING), (x, d) -> x.plays(d));
        dueEach("plays, over", new int[] {1, 0, 0, 0, 0, 0}, Due.house("pits 2;"), (x, d) -> x.plays(d));
        dueEach("plays, over behind two", new int[] {1, 1, 1, 0, 0, 0}, Due.house("pits 2;lay 0 1;"), (x, d) -> x.plays(d));
        dueEach("plays, six ways", new int[] {1, 6, 36}, Due.house("pits 6;lay 1 1 1 1 1 1 1 1 1 1 1 1;"), (x, d) -> x.plays(d));
        dueEach("plays, one must feed", new int[] {1, 1, 1}, Due.house("pits 2;lay 1 1;feed;"), (x, d) -> x.plays(d));
        dueEach("plays, all long", new int[] {1, 0}, Due.house("pits 1;lay 1 2;relay 1;"), (x, d) -> x.plays(d));
        Due.dueOnly("nothing stays", Due.busyHouse(RING), x -> x.plays(5), 1);

        Due.says(31, "IllegalArgumentException: d.");
        for (int d : new int[] {-1, 6, Integer.MIN_VALUE, Integer.MAX_VALUE}) {
            Due.refused(Due.ARGUMENT, "plays(" + d + ")", FOUR, x -> x.plays(d));
        }

        Due.says(32, "How many unlike POSITIONS (with who is to move, and what lies in STORES) there can be behind just d MOVES.");
        dueEach("reached", new int[] {1, 1, 1, 1, 1}, Due.house(RING), (x, d) -> x.reached(d));
        dueEach("reached, over", new int[] {1, 0, 0, 0, 0}, Due.house("pits 2;"), (x, d) -> x.reached(d));
        dueEach("reached, over behind two", new int[] {1, 1, 1, 0, 0}, Due.house("pits 2;lay 0 1;"), (x, d) -> x.reached(d));
        dueEach("reached, 0 4 2 and 2 4 0 are alike", new int[] {1, 2, 2, 3}, Due.house("pits 4;lay 1 0 1 0 1;"), (x, d) -> x.reached(d));
        SowingHouse stores = Due.house("pits 1;lay 2 2;stores;stored 0 9;");
        Due.due("one way", stores.reached(4), stores.plays(4));
        SowingHouse unlike = Due.house("pits 2;lay 1 1 0 1;stores;take opposite;stored 7 7;");
        Due.due("two", unlike.reached(1), 2);
        Due.due("pits alike, stores unlike", Due.house("pits 2;lay 3 1 0 1;stores;").reached(1), 2);
        SowingHouse mover = Due.house("pits 3;lay 1 1 1;stores;again;");
        Due.due("who is to move", mover.reached(1), 3);
        dueGathered("pits 6;lay 3 2 5 1 5 5 6 2 1 1 3 6;");
        dueGathered("pits 3;lay 2 2 2 2 2 2;stores;again;take opposite;stored 98 99;");
        Due.dueOnly("nothing stays", Due.busyHouse(RING), x -> x.reached(4), 1);

        SowingHouse twice = Due.house("pits 6;lay 3 2 5 1 5 5 6 2 1 1 3 6;");
        int first = twice.reached(4);
        Due.due("asked twice", twice.reached(4), first);
        twice.move(0);
        Due.due("another position", twice.reached(4) != first, true);
        twice.undo();
        Due.due("asked behind another one", twice.reached(4), first);
        dueTwice("pits 6;lay 4 5 2 4 0 4 3 1 2 5 2 3;stores;take opposite;", 595);
        dueTwice("pits 6;lay 0 5 5 0 1 5 5 4 0 1 3 0;stores;take opposite;", 291);

        Due.says(32, "IllegalArgumentException: d is not 0 to 4.");
        for (int d : new int[] {-1, 5, Integer.MIN_VALUE, Integer.MAX_VALUE}) {
            Due.refused(Due.ARGUMENT, "reached(" + d + ")", FOUR, x -> x.reached(d));
        }
    }

    /** What was gathered for an earlier answer must not count as gathered for this one. */
    private static void dueTwice(String text, int want) {
        dueGathered(text);
        SowingHouse x = Due.house(text);
        Due.due("first", x.reached(4), want);
        Due.due("second", x.reached(4), want);
    }

    private interface Counted {
        int of(SowingHouse x, int d);
    }

    private static void dueEach(String call, int[] want, SowingHouse x, Counted it) {
        for (int d = 0; d < want.length; d++) {
            Due.due(call + ", " + d, it.of(x, d), want[d]);
        }
    }

    private static SowingHouse behind(String text, String row) {
        SowingHouse x = Due.house(text);
        for (String p : row.split(" ")) {
            if (!p.isEmpty()) {
                x.move(Integer.parseInt(p));
            }
        }
        return x;
    }

    /** Up to a thousand unlike positions, gathered by moves; each is reached anew, as an object has just 512 calls. */
    private static void dueGathered(String text) {
        Set<String> rows = Set.of("");
        for (int d = 0; d <= 4; d++) {
            Map<String, String> unlike = new TreeMap<>();
            for (String row : rows) {
                String all = Due.board(behind(text, row));
                unlike.put(all.substring(all.indexOf("pits"), all.indexOf("score")), row);
            }
            Due.due("gathered behind " + d + ", " + text, Due.house(text).reached(d), unlike.size());
            rows = new HashSet<>();
            for (String row : unlike.values()) {
                SowingHouse x = behind(text, row);
                for (int p = 0; p < 2 * x.count(1); p++) {
                    if (x.may(p) == 0) {
                        rows.add(row + " " + p);
                    }
                }
            }
        }
    }

    // ---- promise 33

    private static void soonest() {
        Due.says(33, "The fewest MOVES from now, of both together, by which it is OVER, of like ones the first by PITS, k NONE: how many, else the PIT of MOVE k");
        dueSoonest("pits 2;lay 0 0 1;");
        dueSoonest("pits 2;lay 1;", 0);
        dueSoonest("pits 2;lay 0 1;", 1, 2);
        dueSoonest("pits 2;lay 1 1;", 0);
        dueSoonest("pits 3;lay 1 1 1;", 0);
        dueSoonest("pits 3;lay 1 0 0 1;", 0, 3, 1, 4, 2, 3);
        dueSoonest("pits 2;lay 2 1;stores;", 0);
        Due.dueOnly("nothing stays", Due.busyHouse("pits 3;lay 1 0 0 1;"), x -> x.soonest(5), 3);

        Due.says(33, "NONE: it can't be with 6, not so many.");
        SowingHouse seven = Due.house("pits 4;lay 1 0 0 0 0 1;");
        Due.due("seven", seven.soonest(-1), -1);
        Due.due("seven, the first", seven.soonest(0), -1);
        seven.move(0);
        Due.due("six", seven.soonest(-1), 6);
        seven.undo();
        Due.due("seven again", seven.soonest(-1), -1);
        SowingHouse like = Due.house("pits 2;lay 1 1 1 1;");
        int before = like.soonest(-1);
        like.move(like.soonest(0));
        Due.due("behind the first of them", like.soonest(-1), before - 1);
        like.undo();
        Due.due("undone", like.soonest(-1), before);
        SowingHouse boards = Due.house("pits 2;lay 0 1;");
        Due.due("0 1", boards.soonest(-1), 2);
        Due.read(boards, "pits 2;lay 1 1;");
        Due.due("1 1", boards.soonest(-1), 1);
        Due.read(boards, "pits 2;lay 0 1;");
        Due.due("0 1 again", boards.soonest(-1), 2);
        Due.read(boards, "pits 2;");
        Due.due("no seeds", boards.soonest(-1), 0);
        SowingHouse side = Due.house("pits 2;lay 1 0 0 1;");
        Due.due("side 0", side.soonest(0), 0);
        Due.read(side, "pits 2;lay 1 0 0 1;first 1;");
        Due.due("side 1", side.soonest(0), 3);
        Due.due("never", Due.house(RING).soonest(-1), -1);
        Due.due("never, the first", Due.house(RING).soonest(0), -1);
        SowingHouse two = Due.house("pits 2;lay 0 1;");
        for (int k : new int[] {2, 5, 6, 7, -2, -3, Integer.MIN_VALUE, Integer.MAX_VALUE}) {
            Due.due("soonest(" + k + ")", two.soonest(k), -1);
        }
    }

    private static void dueSoonest(String text, int... pits) {
        SowingHouse x = Due.house(text);
        Due.due("soonest(-1), " + text, x.soonest(-1), pits.length);
        for (int k = 0; k < pits.length; k++) {
            Due.due("soonest(" + k + "), " + text, x.soonest(k), pits[k]);
        }
        Due.due("soonest(" + pits.length + "), " + text, x.soonest(pits.length), -1);
    }

    // ---- promises 34 and 35

    private static void pitsAndForced() {
        Due.says(34, "PITS (bits) of MOVES that can be and end in the own STORE (what 0), that TAKE something (1), behind which the other SIDE has no seeds in PITS (2).");
        duePitBits("pits 2;lay 2 1 1 1;stores;", 3, 0, 0);
        duePitBits("pits 2;lay 2 1 1 1;", 0, 0, 0);
        duePitBits("pits 2;lay 1 0 1;take opposite;", 0, 1, 1);
        duePitBits("pits 2;lay 1 0 1 1;take opposite;", 0, 1, 0);
        duePitBits("pits 2;lay 1 0 1;take opposite;first 1;", 0, 4, 4);
        duePitBits("pits 2;lay 1 1;feed;", 0, 0, 0);
        duePitBits("pits 2;lay 1 1;", 0, 0, 1);
        duePitBits("pits 2;lay 0 2 1 1;take grand;", 0, 2, 2);
        duePitBits("pits 2;lay 0 2 1 1;take grand starve;", 0, 0, 0);
        duePitBits("pits 2;", 0, 0, 0);
        duePitBits("pits 2;lay 0 0 1 1;", 0, 0, 0);
        duePitBits("pits 6;lay 6 5 4 3 2 1;stores;", 63, 0, 63);
        duePitBits("pits 6;lay 0 0 0 0 0 0 6 5 4 3 2 1;stores;first 1;", 63 << 6, 0, 63 << 6);

        Due.says(34, "IllegalArgumentException: another what.");
        for (int what : new int[] {-1, 3, Integer.MIN_VALUE, Integer.MAX_VALUE}) {
            Due.refused(Due.ARGUMENT, "pits(" + what + ")", FOUR, x -> x.pits(what));
            Due.refused(Due.ARGUMENT, "pits(" + what + "), over", "pits 2;", x -> x.pits(what));
        }

        Due.says(35, "How many MOVES there are on from now, as long as just one can be each time (60 at most).");
        Due.due("none can be", Due.house("pits 2;").forced(), 0);
        Due.due("two can be", Due.house(FOUR).forced(), 0);
        Due.due("one, then none", Due.house("pits 2;lay 1;").forced(), 1);
        Due.due("one, one, then none", Due.house("pits 2;lay 0 1;").forced(), 2);
        Due.due("one, then two", Due.house("pits 2;lay 0 1 0 1;").forced(), 1);
        Due.due("by feed", Due.house("pits 2;lay 1 1;feed;").forced() > 0, true);
        Due.due("60", Due.house(RING).forced(), 60);
        Due.dueOnly("nothing stays", Due.busyHouse(RING), x -> x.forced(), 60);
    }

    private static void duePitBits(String text, int... want) {
        for (int what = 0; what < 3; what++) {
            Due.due("pits(" + what + "), " + text, Due.house(text).pits(what), want[what]);
        }
    }

    // ---- promises 36 and 37

    /** The same board on a new object, as each has just 512 calls. */
    private static SowingHouse anew(SowingHouse x, String rules) {
        int n = x.count(1);
        StringBuilder text = new StringBuilder("pits " + n + ";lay");
        for (int p = 0; p < 2 * n; p++) {
            text.append(' ').append(x.pit(p));
        }
        text.append(";stored ").append(x.store(0)).append(' ').append(x.store(1)).append(";first ").append(x.mover()).append(";");
        return Due.house(text + rules);
    }

    private static int drawn(SowingHouse x, int draw) {
        List<Integer> can = new ArrayList<>();
        int n = x.count(1);
        int first = x.mover() * n;
        for (int p = first; p < first + n; p++) {
            if (x.may(p) == 0) {
                can.add(p);
            }
        }
        return can.get(draw % can.size());
    }

    /** What a play is due to tell, found by the calls may, move and best alone. */
    private static int[] played(String board, String rules, int seed, boolean against) {
        SowingHouse x = Due.house(board + rules);
        long draws = seed;
        int made = 0;
        while (made < 100 && !x.over()) {
            int p = -1;
            if (against && x.mover() == 1) {
                p = x.best();
            } else {
                draws = draws * 1103515245L + 12345L & 0xffffffffL;
                p = drawn(x, (int) (draws >> 16));
            }
            x.move(p);
            made++;
            x = made % 20 == 0 ? anew(x, rules) : x;
        }
        return new int[] {x.score(), made, x.over() ? 1 : 0};
    }

    private static void duePlay(String board, String rules, int seed, boolean against) {
        int[] want = played(board, rules, seed, against);
        SowingHouse x = Due.house(board + rules);
        for (int what = 0; what < 3; what++) {
            int got = against ? x.against(seed, what) : x.play(seed, what);
            Due.due((against ? "against(" : "play(") + seed + ", " + what + "), " + board + rules, got, want[what]);
        }
    }

    private static final int[] SEEDS = {0, 1, -1, 2, 12345, 65535, 65536, -65536, Integer.MIN_VALUE, Integer.MIN_VALUE + 1,
        Integer.MAX_VALUE, Integer.MAX_VALUE - 1, 1103515245, -1103515245};

    private static void playsByDraws() {
        Due.says(36, "(x, an int; a DRAW: x becomes 1103515245 x + 12345, it is x >>> 16)");
        for (int seed : SEEDS) {
            duePlay("pits 3;lay 2 2 2 2 2 2;", "stores;", seed, false);
            duePlay("pits 6;lay 1 1 1 1 1 1 1 1 1 1 1 1;first 1;", "take opposite;stores;", seed, false);
        }

        Due.says(36, "at each MOVE DRAW modulo how many can be, of these in order; at most 100 MOVES.");
        SowingHouse ring = Due.house(RING);
        int[] ringDues = {-1, 100, 0};
        for (int what = 0; what < 3; what++) {
            Due.due("play(7, " + what + ")", ring.play(7, what), ringDues[what]);
        }
        SowingHouse last = Due.house("pits 2;lay 2 0 1 2;");
        Due.due("over with the 100th", last.play(28, 1) * 10 + last.play(28, 2), 1001);
        duePlay("pits 2;lay 2 0 1 2;", "", 28, false);

        Due.says(36, "what 0: SCORE at its end, 1: how many MOVES, 2: 1 if it was OVER, else 0.");
        SowingHouse over = Due.house("pits 2;lay 0 0 1 2;stored 9 1;");
        int[] overDues = {5, 0, 1};
        SowingHouse one = Due.house("pits 2;lay 1;stored 9 1;");
        int[] oneDues = {9, 1, 1};
        for (int what = 0; what < 3; what++) {
            Due.due("over, what " + what, over.play(1, what), overDues[what]);
            Due.due("one move, what " + what, one.play(1, what), oneDues[what]);
        }
        Due.due("not solved", Due.house(NOT_SOLVED).play(1, 1) > 0, true);
        Due.dueOnly("nothing stays", Due.busyHouse(RING), x -> x.play(1, 1), 100);

        Due.says(36, "IllegalArgumentException: another what.");
        for (int what : new int[] {-1, 3, Integer.MIN_VALUE, Integer.MAX_VALUE}) {
            Due.refused(Due.ARGUMENT, "play(1, " + what + ")", FOUR, x -> x.play(1, what));
        }
    }

    private static void playsAgainst() {
        Due.says(37, "AGAINST: SIDE 0 moves by DRAWS so, SIDE 1 by BEST.");
        for (int seed : SEEDS) {
            duePlay("pits 2;lay 2 2 2 2;", "stores;", seed, true);
            duePlay("pits 2;lay 2 2 2 2;first 1;", "stores;again;", seed, true);
        }

        Due.says(37, "AGAINST, likewise.");
        SowingHouse ring = Due.house(RING);
        int[] ringDues = {-1, 100, 0};
        SowingHouse over = Due.house("pits 2;lay 0 0 1 2;stored 9 1;");
        int[] overDues = {5, 0, 1};
        for (int what = 0; what < 3; what++) {
            Due.due("against(7, " + what + ")", ring.against(7, what), ringDues[what]);
            Due.due("over, what " + what, over.against(7, what), overDues[what]);
        }
        for (int what : new int[] {-1, 3, Integer.MIN_VALUE, Integer.MAX_VALUE}) {
            Due.refused(Due.ARGUMENT, "against(1, " + what + ")", FOUR, x -> x.against(1, what));
        }
        Due.dueOnly("nothing stays", Due.busyHouse(RING), x -> x.against(1, 1), 100);

        Due.says(37, "IllegalStateException: SPENT now.");
        for (int what : new int[] {0, 1, 2, 3, -1}) {
            Due.refused(Due.STATE, "against(1, " + what + "), spent", NOT_SOLVED, x -> x.against(1, what));
        }
        SowingHouse x = Due.house("pits 6;lay 0 0 0 0 0 5;stores;");
        Due.refused(Due.STATE, "spent now", x, y -> y.against(1, 0));
        x.move(5);
        Due.due("no more spent", x.against(1, 1) >= 0, true);
    }

    // ---- promises 38 to 40

    private static void trays() {
        Due.says(38, "rows of 0 to 40 numbers of 8 bits (sort 0), 16 (1), 32 (2), 64 (3)");
        for (int tray = 0; tray < 4; tray++) {
            for (int sort = 0; sort < 4; sort++) {
                for (int many : new int[] {0, 1, 40}) {
                    SowingHouse x = Due.house(RING);
                    x.tray(tray, sort, many);
                    Due.due("an empty row is judged", x.judge(tray, 0), many == 0 ? -1 : many == 1 ? -1 : 1);
                    int place = many;
                    int it = tray;
                    Due.refused(Due.BOUNDS, "place " + many, x, y -> y.write(it, place, 1));
                    if (many > 0) {
                        Due.due("place " + (many - 1), x.write(tray, many - 1, 1), 1);
                    }
                }
            }
        }

        Due.says(38, "A TRAY is a row of so many 0s.");
        SowingHouse again = Due.house(RING);
        Due.lay(again, 0, 3, 9, 9, 9);
        again.tray(0, 0, 2);
        Due.due("0 0", again.perform(0), 1);
        Due.refused(Due.BOUNDS, "a third", again, x -> x.write(0, 2, 1));
        again.tray(0, 0, 3);
        again.undo();
        Due.due("0 0 0", again.judge(0, 0), 1);
        again.write(0, 1, 1);
        Due.due("0 1 0", again.judge(0, 0), -1);
        Due.refused(Due.STATE, "the others are missing", again, x -> x.write(1, 0, 1));

        Due.says(38, "NoSuchElementException: no such TRAY; IllegalArgumentException: no such sort, or not so many.");
        for (int wrong : new int[] {-1, Integer.MIN_VALUE, Integer.MAX_VALUE}) {
            Due.refused(Due.NO_ELEMENT, "tray " + wrong, RING, x -> x.tray(wrong, 0, 1));
            Due.refused(Due.NO_ELEMENT, "tray " + wrong + ", sort, many", RING, x -> x.tray(wrong, wrong, wrong));
            Due.refused(Due.ARGUMENT, "sort " + wrong, RING, x -> x.tray(3, wrong, 1));
            Due.refused(Due.ARGUMENT, "many " + wrong, RING, x -> x.tray(3, 0, wrong));
        }
        Due.refused(Due.NO_ELEMENT, "tray 4", RING, x -> x.tray(4, 4, 41));
        Due.refused(Due.ARGUMENT, "sort 4", RING, x -> x.tray(3, 4, 1));
        Due.refused(Due.ARGUMENT, "many 41", RING, x -> x.tray(3, 3, 41));
        Due.refused(Due.ARGUMENT, "a missing one, many 41", RING, x -> x.tray(0, 3, 41));
    }

    private static void writes() {
        Due.says(39, "A number comes to a place of a TRAY, cut to its sort: as it is there.");
        for (int sort = 0; sort < 4; sort++) {
            int bits = 8 << sort;
            SowingHouse x = Due.house(RING);
            x.tray(0, sort, 40);
            long top = 1L << bits - 1;
            Due.due("0", x.write(0, 0, 0), 0);
            Due.due("-1", x.write(0, 39, -1), -1);
            Due.due("the greatest of " + bits, x.write(0, 0, top - 1), top - 1);
            Due.due("the least of " + bits, x.write(0, 0, -top), -top);
            if (bits < 64) {
                Due.due("one above the greatest of " + bits, x.write(0, 0, top), -top);
                Due.due("one below the least of " + bits, x.write(0, 0, -top - 1), top - 1);
                Due.due("all round of " + bits, x.write(0, 0, 1L << bits), 0);
                Due.due("all round and 5 of " + bits, x.write(0, 0, (1L << bits) + 5), 5);
                Due.due("the least long", x.write(0, 0, Long.MIN_VALUE), 0);
                Due.due("the greatest long", x.write(0, 0, Long.MAX_VALUE), -1);
                Due.due("cut to pit 0 of " + bits, x.write(0, 0, 7L << bits), 0);
                Due.due("it is pit 0 that is there", x.judge(0, 1), 1);
                Due.due("the second is none", x.judge(0, 0), 1);
            } else {
                x.write(0, 0, 1L << 32);
                Due.due("not cut", x.judge(0, 0), 0);
            }
        }

        Due.says(39, "IllegalStateException: it is MISSING; IndexOutOfBoundsException: it has no such place.");
        for (int wrong : new int[] {-1, Integer.MIN_VALUE, Integer.MAX_VALUE}) {
            Due.refused(Due.NO_ELEMENT, "tray " + wrong, RING, x -> x.write(wrong, wrong, 1));
            Due.refused(Due.STATE, "missing, place " + wrong, RING, x -> x.write(0, wrong, 1));
            Due.refused(Due.BOUNDS, "place " + wrong, RING, x -> x.write(3, wrong, 1));
        }
        Due.refused(Due.NO_ELEMENT, "tray 4", RING, x -> x.write(4, 0, 1));
        Due.refused(Due.STATE, "missing", RING, x -> x.write(2, 0, 1));
        Due.refused(Due.BOUNDS, "place 3 of 3", RING, x -> x.write(3, 3, 1));
        Due.due("place 2 of 3", Due.busyHouse(RING).write(3, 2, 1), 1);
        SowingHouse none = Due.house(RING);
        none.tray(1, 3, 0);
        Due.refused(Due.BOUNDS, "place 0 of none", none, x -> x.write(1, 0, 1));
        SowingHouse full = Due.house(RING);
        full.tray(1, 3, 40);
        Due.refused(Due.BOUNDS, "place 40 of 40", full, x -> x.write(1, 40, 1));
    }

    private static void pour() {
        Due.says(40, "PITS of MOVES that were made and not undone come into a TRAY from its first place on, the first of them that are kept first, as many as it has places: how many.");
        SowingHouse x = Due.house("pits 2;lay 1 1 1 1;");
        Due.lay(x, 0, 0, 9, 9);
        Due.due("none was made", x.pour(0), 0);
        Due.due("what is there stays", x.judge(0, 0), 0);
        x.move(1);
        x.move(3);
        x.move(0);
        x.undo();
        Due.due("one was undone", x.pour(0), 2);
        x.undo();
        Due.lay(x, 1, 0, 9, 9, 9);
        Due.due("two were undone", x.pour(1), 1);
        x.undo();
        Due.due("1 3", x.perform(0), 2);
        x.undo();
        x.undo();
        Due.due("1 9 9", x.perform(1), 1);
        Due.due("the rest stays as it was", x.judge(1, 1), 1);
        x.tray(2, 3, 0);
        Due.dueOnly("no places", x, y -> y.pour(2), 0);
        x.tray(2, 2, 1);
        x.move(2);
        Due.due("one place", x.pour(2), 1);
        x.undo();
        x.undo();
        Due.due("the first of two", x.perform(2), 1);
        Due.due("from pit 1", x.pit(1), 0);
        for (int made : new int[] {39, 40, 41, 42}) {
            SowingHouse full = Due.house("pits 1;lay 1 1;");
            for (int i = 0; i < made; i++) {
                full.move(i % 2);
            }
            int kept = Math.min(40, made);
            full.tray(3, 1, 40);
            Due.due("kept of " + made, full.pour(3), kept);
            for (int i = 0; i < kept; i++) {
                full.undo();
            }
            Due.due("the first of them that are kept, of " + made, full.perform(3), kept);
        }

        Due.says(40, "NoSuchElementException: no such TRAY; IllegalStateException: it is MISSING.");
        for (int tray : new int[] {-1, 4, Integer.MIN_VALUE, Integer.MAX_VALUE}) {
            Due.refused(Due.NO_ELEMENT, "pour(" + tray + ")", RING, y -> y.pour(tray));
        }
        for (int i = 0; i < 3; i++) {
            int tray = i;
            Due.refused(Due.STATE, "pour(" + tray + ")", RING, y -> y.pour(tray));
        }
    }

    // ---- promises 41 and 42

    private static void images() {
        int[] bad = {-1, 3, Integer.MIN_VALUE, Integer.MAX_VALUE};
        Due.says(41, "An IMAGE is made.");
        SowingHouse x = Due.house("pits 2;lay 1 1 1 1;stores;again;");
        x.move(1);
        x.move(0);
        x.undo();
        for (int i = 0; i < 3; i++) {
            int image = i;
            Due.dueOnly("image(" + i + ")", x, y -> {
                y.image(image);
                return 0;
            }, 0);
        }
        Due.due("redo stays", x.redo(), true);
        x.image(1);
        x.restore(1);
        Due.due("made anew", x.pit(0), 0);
        x.restore(0);
        Due.due("another one stays", x.pit(0), 1);

        Due.says(41, "NoSuchElementException: no such one.");
        for (int i : bad) {
            Due.refused(Due.NO_ELEMENT, "image(" + i + ")", RING, y -> y.image(i));
        }

        Due.says(42, "NoSuchElementException: no such one; IllegalStateException: none was made.");
        for (int i : bad) {
            Due.refused(Due.NO_ELEMENT, "restore(" + i + ")", RING, y -> y.restore(i));
        }
        Due.refused(Due.STATE, "restore(0)", RING, y -> y.restore(0));
        Due.refused(Due.STATE, "restore(1)", RING, y -> y.restore(1));
        Due.refused(Due.STATE, "restore(2)", new SowingHouse(), y -> y.restore(2));

        Due.says(42, "IMAGES 0 to 2: all but the tape, the FAULT and TRAYS, as it was");
        SowingHouse z = Due.house("pits 2;lay 1 2;lacking 3;stored 1 2;stores;again;skip;relay 3;take opposite;feed;first 0;");
        z.move(1);
        String then = Due.board(z);
        z.image(0);
        Due.lay(z, 1, 0, 7);
        Due.read(z, "lay 21;");
        String[] others = {"", "pits 6;lay 5 5;first 1;", "pits 1;lay 20 20;stored 99 99;take grand starve;"};
        for (String text : others) {
            Due.read(z, text);
            Due.read(z, "lay 1000;");
            Due.tape(z, "pits 2;");
            z.restore(0);
            String now = Due.board(z);
            Due.due("the board, behind '" + text + "'", now.substring(now.indexOf("pits")).equals(then.substring(then.indexOf("pits"))), true);
            Due.due("lines, pits, seeds, lacking", z.count(0) * 1000 + z.count(1) * 100 + z.count(2) * 10 + z.count(3), 11221);
            Due.due("the fault stays", z.fault(0) * 10 + z.fault(1), 14);
            Due.due("the tape stays", z.count(6), 20);
            Due.due("the tray stays", z.judge(1, 0), 0);
            z.board(0);
        }
        SowingHouse fresh = new SowingHouse();
        fresh.image(0);
        Due.read(fresh, "pits 1;lay 1 1;");
        fresh.restore(0);
        Due.duePits("an image of a new object", fresh, 0, 0, 0, 0, 0, 0);

        Due.says(42, "nothing can be undone or done again then.");
        SowingHouse w = Due.house(RING);
        w.move(0);
        w.image(0);
        w.move(1);
        w.move(0);
        w.undo();
        w.restore(0);
        Due.due("to be undone", w.count(4), 0);
        Due.due("to be done again", w.count(5), 0);
        Due.dueOnly("undo", w, y -> y.undo() ? 1 : 0, 0);
        Due.dueOnly("redo", w, y -> y.redo() ? 1 : 0, 0);
        w.move(1);
        Due.due("moves from there", w.undo(), true);
        w.tray(0, 0, 1);
        Due.due("none is kept", w.pour(0), 0);
    }

    // ---- promise 43

    private static void counts() {
        Due.says(43, "0 LINES, 1 pits a side, 2 seeds in PITS, 3 LACKING PITS, 4 MOVES that can be undone, 5 that can be done again, 6 bytes on the tape; NONE for others.");
        dueCounts("new", new SowingHouse(), 0, 3, 0, 0, 0, 0, 0);
        dueCounts("all lack", Due.house("pits 1;lacking 0;lacking 1;lacking 1;"), 4, 1, 0, 2, 0, 0, 0);
        dueCounts("full", Due.house("pits 6;lay 20 20;"), 2, 6, 40, 0, 0, 0, 0);
        SowingHouse x = Due.house("pits 2;lay 0 1 1 1;stores;");
        Due.tape(x, " ".repeat(500));
        x.move(1);
        x.move(3);
        dueCounts("seeds in stores aren't counted", x, 3, 2, 1, 0, 2, 0, 500);
        x.undo();
        dueCounts("undone", x, 3, 2, 2, 0, 1, 1, 500);
        x.undo();
        dueCounts("undone", x, 3, 2, 3, 0, 0, 2, 500);
        x.redo();
        dueCounts("done again", x, 3, 2, 2, 0, 1, 1, 500);
        for (int what : Due.FAR) {
            Due.due("count(" + what + ")", x.count(what), -1);
        }
    }

    private static void dueCounts(String when, SowingHouse x, int... want) {
        for (int what = 0; what < 7; what++) {
            Due.due(when + ": count(" + what + ")", x.count(what), want[what]);
        }
        Due.due(when + ": count(-1)", x.count(-1), -1);
        Due.due(when + ": count(7)", x.count(7), -1);
    }

    public static void main(String[] args) {
        plays();
        soonest();
        pitsAndForced();
        playsByDraws();
        playsAgainst();
        trays();
        writes();
        pour();
        images();
        counts();
        Due.end(31, 43);
    }
}
