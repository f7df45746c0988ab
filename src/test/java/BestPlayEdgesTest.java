import java.math.BigInteger;
import java.util.ArrayList;
import java.util.List;

/** The edges that promises 17 to 30 name: numbers of positions, what is solved, values, ranks, best moves, the line. */
public final class BestPlayEdgesTest {
    private static final int SPENT = -1000;
    /** By pits that aren't lacking: the most seeds that are solved; 40 is the most that can lie. */
    private static final int[] SOLVED = {40, 40, 40, 31, 17, 11, 9, 7, 6, 6, 5, 5, 4};
    /** Twelve pits with five seeds: they have a number each, but they aren't solved. */
    private static final String NOT_SOLVED = "pits 6;lay 5;";
    /** One seed, 2 pits a side, PIT 2 lacks: what each side has of its three positions, worked out by hand. */
    private static final String APART = "pits 2;lay 0 1;lacking 2;";
    private static final int[][] APART_VALUES = {{1, 1, -1}, {-1, -1, -1}};
    private static final int[][] APART_RANKS = {{1, 3, 0}, {2, 0, 0}};
    private static final int[][] APART_BESTS = {{0, 1, -1}, {1, -1, -1}};
    private static final int[][] APART_WORTHS_0 = {{1, SPENT, SPENT}, {SPENT, SPENT, SPENT}};
    private static final int[][] APART_WORTHS_1 = {{SPENT, 1, SPENT}, {-1, SPENT, SPENT}};

    /** A board with so many pits that aren't lacking, and these seeds, at most 20 in each of the first two. */
    private static String open(int pits, int seeds) {
        StringBuilder text = new StringBuilder("pits 6;");
        for (int p = pits; p < 12; p++) {
            text.append("lacking ").append(p).append(";");
        }
        if (seeds > 0) {
            text.append("lay ").append(Math.min(20, seeds)).append(' ').append(seeds - Math.min(20, seeds)).append(";");
        }
        return text.toString();
    }

    private static long ways(int pits, int seeds) {
        if (pits == 0) {
            return seeds == 0 ? 1 : 0;
        }
        BigInteger all = BigInteger.ONE;
        for (int i = 1; i < pits; i++) {
            all = all.multiply(BigInteger.valueOf(seeds + i)).divide(BigInteger.valueOf(i));
        }
        return all.longValueExact();
    }

    private static long waysUpTo(int pits, int seeds) {
        return ways(pits + 1, seeds);
    }

    // ---- promises 17 to 19

    private static void positions() {
        Due.says(17, "How many POSITIONS of s seeds there are for a SIDE; SPENT: more than 6,000.");
        for (int pits = 0; pits <= 12; pits++) {
            SowingHouse x = Due.house(open(pits, 0));
            for (int s = 0; s <= 40; s++) {
                long many = ways(pits, s);
                for (int side = 0; side < 2; side++) {
                    Due.due("positions of " + s + " in " + pits, x.positions(side, s), many > 6000 ? SPENT : many);
                }
            }
        }
        Due.due("5984 of 31 in 4", Due.house("pits 2;").positions(0, 31), 5984);
        Due.due("6545 of 32 in 4", Due.house("pits 2;").positions(0, 32), SPENT);
        Due.due("5985 of 17 in 5", Due.house("lacking 0;").positions(1, 17), 5985);
        Due.due("7315 of 18 in 5", Due.house("lacking 0;").positions(1, 18), SPENT);

        Due.says(17, "NoSuchElementException: no such SIDE; IllegalArgumentException: s isn't 0 to 40.");
        for (int side : new int[] {-1, 2, Integer.MIN_VALUE, Integer.MAX_VALUE}) {
            Due.refused(Due.NO_ELEMENT, "positions(" + side + ", 0)", "pits 2;", x -> x.positions(side, 0));
            Due.refused(Due.NO_ELEMENT, "positions(" + side + ", 41)", "pits 2;", x -> x.positions(side, 41));
        }
        for (int s : new int[] {-1, 41, Integer.MIN_VALUE, Integer.MAX_VALUE}) {
            Due.refused(Due.ARGUMENT, "positions(0, " + s + ")", "pits 2;", x -> x.positions(0, s));
            Due.refused(Due.ARGUMENT, "positions(1, " + s + ")", "pits 6;", x -> x.positions(1, s));
        }
    }

    private static void place() {
        Due.says(18, "The number of the POSITION now; SPENT: there are more than 6,000 of as many seeds.");
        Due.due("no seeds", Due.house("pits 6;").place(), 0);
        Due.due("no pits", Due.house("pits 1;lacking 0;lacking 1;").place(), 0);
        Due.due("the first", Due.house("pits 6;lay 5;").place(), 0);
        Due.due("the last", Due.house("pits 6;lay 0 0 0 0 0 0 0 0 0 0 0 5;").place(), 4367);
        Due.due("the first, side 1", Due.house("pits 6;lay 0 0 0 0 0 0 5;first 1;").place(), 0);
        Due.due("the last, side 1", Due.house("pits 6;lay 0 0 0 0 0 5;first 1;").place(), 4367);
        Due.due("6 of 12", Due.house("pits 6;lay 6;").place(), SPENT);
        Due.due("31 of 4", Due.house("pits 2;lay 0 0 11 20;").place(), 5984 - 1 - 11);
        Due.due("32 of 4", Due.house("pits 2;lay 0 0 12 20;").place(), SPENT);
        Due.due("17 of 5", Due.house("lacking 0;lay 0 17;").place(), 0);
        Due.due("18 of 5", Due.house("lacking 0;lay 0 18;").place(), SPENT);
        Due.due("40 of 3", Due.house("pits 2;lacking 0;lay 0 0 20 20;").place(), 860 - 20);
        Due.due("40 of 12", Due.house("pits 6;lay 20 20;").place(), SPENT);
        SowingHouse x = Due.house("pits 2;lay 1 1 1 1;stores;");
        int before = x.place();
        x.move(1);
        Due.due("3 seeds, side 1 sees 1 1 1 0, behind 3, 21, 201, 2001, 12", x.place(), 5);
        x.undo();
        Due.due("undone", x.place(), before);
    }

    /** All positions as a side sees them, in the document's order; lacking pits have NONE. */
    private static List<int[]> seen(int n, int lacking, int side, int s) {
        List<int[]> all = new ArrayList<>();
        gather(all, new int[2 * n], 0, s, n, lacking, side);
        return all;
    }

    private static void gather(List<int[]> all, int[] head, int i, int left, int n, int lacking, int side) {
        if (i == 2 * n) {
            if (left == 0) {
                all.add(head.clone());
            }
            return;
        }
        if ((i + side * n) % (2 * n) == lacking) {
            head[i] = -1;
            gather(all, head, i + 1, left, n, lacking, side);
            return;
        }
        for (int x = left; x >= 0; x--) {
            head[i] = x;
            gather(all, head, i + 1, left - x, n, lacking, side);
        }
    }

    private static void ofPlace() {
        Due.says(19, "(0 to 2 n less 1; NONE: LACKING)");
        for (int side = 0; side < 2; side++) {
            for (int s = 0; s <= 4; s++) {
                List<int[]> all = seen(2, 2, side, s);
                SowingHouse x = Due.house("pits 2;lacking 2;");
                Due.due("how many of " + s, x.positions(side, s), all.size());
                for (int k = 0; k < all.size(); k++) {
                    for (int i = 0; i < 4; i++) {
                        Due.due("ofPlace(" + side + ", " + s + ", " + k + ", " + i + ")", x.ofPlace(side, s, k, i), all.get(k)[i]);
                    }
                }
            }
        }
        SowingHouse most = Due.house("pits 2;");
        Due.due("40 seeds are too many", most.positions(0, 40), SPENT);
        Due.due("the last of 31", most.ofPlace(0, 31, 5983, 3), 31);
        Due.due("the first of 31", most.ofPlace(1, 31, 0, 0), 31);
        Due.due("40 of 2", Due.house("pits 1;").ofPlace(1, 40, 40, 1), 40);

        Due.says(19, "Its throws, the first of these: NoSuchElementException: the SIDE; IllegalArgumentException: s; IllegalStateException: SPENT; NoSuchElementException: no such POSITION; IndexOutOfBoundsException: i.");
        int[] bad = {-1, Integer.MIN_VALUE, Integer.MAX_VALUE};
        for (int wrong : bad) {
            Due.refused(Due.NO_ELEMENT, "side " + wrong, "pits 2;", x -> x.ofPlace(wrong, 2, 0, 0));
            Due.refused(Due.NO_ELEMENT, "side " + wrong + ", all", "pits 2;", x -> x.ofPlace(wrong, wrong, wrong, wrong));
            Due.refused(Due.ARGUMENT, "s " + wrong, "pits 2;", x -> x.ofPlace(1, wrong, 0, 0));
            Due.refused(Due.ARGUMENT, "s " + wrong + ", k, i", "pits 2;", x -> x.ofPlace(1, wrong, wrong, wrong));
            Due.refused(Due.STATE, "spent, k " + wrong + ", i", "pits 2;", x -> x.ofPlace(1, 32, wrong, wrong));
            Due.refused(Due.NO_ELEMENT, "k " + wrong, "pits 2;", x -> x.ofPlace(1, 2, wrong, 0));
            Due.refused(Due.NO_ELEMENT, "k " + wrong + ", i", "pits 2;", x -> x.ofPlace(1, 2, wrong, wrong));
            Due.refused(Due.BOUNDS, "i " + wrong, "pits 2;", x -> x.ofPlace(1, 2, 0, wrong));
        }
        Due.refused(Due.NO_ELEMENT, "side 2", "pits 2;", x -> x.ofPlace(2, 2, 0, 0));
        Due.refused(Due.ARGUMENT, "s 41", "pits 2;", x -> x.ofPlace(0, 41, 0, 0));
        Due.refused(Due.STATE, "spent", "pits 2;", x -> x.ofPlace(0, 32, 0, 0));
        Due.refused(Due.NO_ELEMENT, "k 10 of 10", "pits 2;", x -> x.ofPlace(0, 2, 10, 0));
        Due.due("k 9 of 10", Due.house("pits 2;").ofPlace(0, 2, 9, 3), 2);
        Due.refused(Due.NO_ELEMENT, "no pits", "pits 1;lacking 0;lacking 1;", x -> x.ofPlace(0, 1, 0, 0));
        for (int n = 1; n <= 6; n++) {
            int end = 2 * n;
            Due.refused(Due.BOUNDS, "i " + end, "pits " + n + ";", x -> x.ofPlace(0, 0, 0, end));
            Due.due("i " + (end - 1), Due.house("pits " + n + ";").ofPlace(0, 0, 0, end - 1), 0);
        }
        Due.due("not solved, but not spent", Due.house("pits 6;").ofPlace(0, 5, 0, 0), 5);
    }

    // ---- what is solved

    private static boolean isSolved(SowingHouse x, int s) {
        try {
            x.valueOf(0, s, 0);
            return true;
        } catch (IllegalStateException e) {
            return false;
        }
    }

    private static void whatIsSolved() {
        Due.says(20, "SOLVED are POSITIONS only if there are at most 6,000 of as many seeds and fewer, of one SIDE; else SPENT (-1000).");
        for (int pits = 1; pits <= 12; pits++) {
            int most = SOLVED[pits];
            Due.due("at most 6,000 of " + most + " in " + pits, waysUpTo(pits, most) <= 6000, true);
            SowingHouse x = Due.house(open(pits, Math.min(most, 20 * pits)));
            Due.due("value of " + most + " in " + pits, x.value() != SPENT, true);
            Due.due("valueOf of " + most + " in " + pits, isSolved(x, most), true);
            if (most < 40) {
                SowingHouse y = Due.house(open(pits, most + 1));
                Due.due("more than 6,000 of " + (most + 1) + " in " + pits, waysUpTo(pits, most + 1) > 6000, true);
                Due.due("value of " + (most + 1) + " in " + pits, y.value(), SPENT);
                Due.due("valueOf of " + (most + 1) + " in " + pits, isSolved(y, most + 1), false);
                Due.due("valueOf of fewer", isSolved(y, most), true);
            }
        }
        SowingHouse none = Due.house("pits 1;lacking 0;lacking 1;");
        Due.due("no pits", none.value(), 0);
        Due.refused(Due.NO_ELEMENT, "no pits, but seeds", none, x -> x.valueOf(0, 40, 0));
    }

    // ---- promises 20 to 23

    private static void values() {
        Due.says(20, "VALUE now; SPENT.");
        Due.due("of four seeds", Due.house("pits 6;lay 4;").value() != SPENT, true);
        Due.due("of five", Due.house(NOT_SOLVED).value(), SPENT);
        SowingHouse x = Due.house("pits 6;lay 0 0 0 0 0 5;stores;");
        Due.due("five, ahead of a move", x.value(), SPENT);
        x.move(5);
        Due.due("four, behind it", x.value() != SPENT, true);

        Due.says(20, "(OVER: with what lies in PITS)");
        Due.due("nothing lies", Due.house("pits 2;").value(), 0);
        Due.due("the other's", Due.house("pits 2;lay 0 0 2 1;").value(), -3);
        Due.due("of side 1", Due.house("pits 2;lay 2 1;first 1;").value(), -3);
        Due.due("all long, one of three", Due.house("pits 1;lay 1 2;relay 1;").value(), -1);
        Due.due("stores don't matter", Due.house("pits 2;lay 0 0 2 1;stored 50 3;").value(), -3);
        Due.due("over behind one move", Due.house("pits 1;lay 3;lacking 1;").value(), 3);

        Due.says(20, "a play that never ends counts 0 from where no more seeds leave the PITS.");
        Due.due("a ring", Due.house("pits 1;lay 1 1;").value(), 0);
        Due.due("one seed round two pits", Due.house("pits 1;lay 1;").value(), 0);
        SowingHouse ring = Due.house("pits 2;lay 2 3;take opposite;feed;");
        Due.due("2 more, then a ring", ring.value(), 2);
        Due.due("a ring", ring.line(-2), 1);

        Due.says(21, "RANK now; NONE: SPENT.");
        Due.due("solved", Due.house("pits 6;lay 4;").rank() >= 0, true);
        Due.due("spent", Due.house(NOT_SOLVED).rank(), -1);

        Due.says(21, "it comes out so, and with any greater number, too.");
        Due.due("over", Due.house("pits 2;lay 0 0 2 1;").rank(), 0);
        Due.due("no seeds", Due.house("pits 2;").rank(), 0);
        Due.due("a ring", Due.house("pits 1;lay 1 1;").rank(), 0);
        Due.due("seeds leave with the first", Due.house("pits 2;lay 0 1;stores;").rank(), 1);
        Due.due("over behind the first", Due.house("pits 2;lay 1;").rank(), 1);
        Due.due("over behind the second", Due.house("pits 2;lay 0 1;").rank(), 2);
        Due.due("over behind the third", Due.house("pits 2;lay 0 1;lacking 2;").rank(), 3);

        Due.says(22, "The PIT of BEST; NONE: OVER, SPENT.");
        Due.due("over", Due.house("pits 2;lay 0 0 1;").best(), -1);
        Due.due("no seeds", Due.house("").best(), -1);
        Due.due("spent", Due.house(NOT_SOLVED).best(), -1);
        Due.due("pit 0", Due.house("pits 2;lay 1;").best(), 0);
        Due.due("the last pit", Due.house("pits 6;lay 0 0 0 0 0 0 0 0 0 0 0 1;first 1;").best(), 11);
    }

    /** What some calls tell of best play; they all depend on the rules. */
    private static String toldBy(SowingHouse x) {
        StringBuilder all = new StringBuilder();
        all.append(x.value()).append(' ').append(x.rank()).append(' ').append(x.best()).append(' ').append(x.swapped());
        for (int what = 0; what < 6; what++) {
            all.append(' ').append(x.most(what % 2, 3, what));
        }
        return all.append(' ').append(x.tally(0, 3, 0)).append(' ').append(x.tally(1, 3, 1)).append(' ').append(x.soonest(-1))
                .append(' ').append(x.soonest(0)).toString();
    }

    /** All kinds of rules, each behind each other one, on objects that have solved the other ones. */
    private static void otherRules() {
        Due.says(20, "VALUE now");
        List<String> texts = new ArrayList<>();
        for (int kinds = 0; kinds < 16; kinds++) {
            String flags = ((kinds & 1) == 0 ? "" : "stores;") + ((kinds & 2) == 0 ? "" : "skip;")
                    + ((kinds & 4) == 0 ? "" : "again;") + ((kinds & 8) == 0 ? "" : "feed;");
            for (String more : new String[] {"", "take opposite;", "take grand;", "take grand starve;", "relay 1;", "relay 2;", "relay 4;"}) {
                texts.add("pits 2;lay 1 1 0 1;" + flags + more);
            }
        }
        for (String more : new String[] {"lacking 2;", "lacking 2;relay 1;", "lacking 2;relay 16;"}) {
            texts.add("pits 2;lay 1 1 0 1;" + more);
        }
        for (String more : new String[] {"", "relay 1;", "relay 17;"}) {
            texts.add("pits 1;lay 2 1;" + more);
        }
        texts.add("pits 5;lay 0 1 0 0 1 0 1;");
        texts.add("pits 5;lay 0 1 0 0 1 0 1;lacking 0;");
        texts.add("pits 3;lay 1 0 1 0 0 1;");
        texts.add("pits 3;lay 1 0 1 0 0 1;lacking 1;");
        List<String> alone = new ArrayList<>();
        for (String text : texts) {
            alone.add(toldBy(Due.house(text)));
        }
        for (int i = 0; i < texts.size(); i++) {
            SowingHouse x = Due.house(texts.get(i));
            for (int j = 0; j < texts.size(); j++) {
                if (j % 8 == 0) {
                    x = Due.house(texts.get(i));
                }
                Due.read(x, texts.get(i));
                x.value();
                x.soonest(-1);
                Due.read(x, texts.get(j));
                Due.due(texts.get(j) + " behind " + texts.get(i), toldBy(x).equals(alone.get(j)), true);
            }
        }
    }

    private static void bestOfSeveral() {
        Due.says(22, "of those MOVES whose WORTH is the VALUE those by which the RANK of what comes of it is least (0 if seeds left the PITS), of these the first.");
        SowingHouse x = Due.house("pits 2;lay 2 1;take opposite;");
        Due.due("both lose three", x.worth(0), -3);
        Due.due("both lose three", x.worth(1), -3);
        Due.due("the second by the lesser rank", x.best(), 1);
        SowingHouse y = Due.house("pits 3;lay 1 0 1 1;stores;");
        Due.due("seeds stay", y.worth(0), 1);
        Due.due("a seed leaves", y.worth(2), 1);
        Due.due("the second, as seeds leave", y.best(), 2);
        SowingHouse one = Due.house("pits 2;lay 1 1 0 1;stores;take opposite;again;");
        Due.due("seeds stay, and rank 1 is behind", one.worth(0), 1);
        Due.due("a seed leaves: 0", one.worth(1), 1);
        Due.due("0 is less than 1", one.best(), 1);
        SowingHouse deep = Due.house("pits 3;lay 1 1 1 1;stores;");
        Due.due("seeds leave, whatever the rank there is", deep.best(), 2);
        SowingHouse z = Due.house("pits 2;lay 1 1 0 0;stores;");
        Due.due("two with the same worth", z.worth(0) == z.worth(1), true);
        Due.due("the first", z.best(), 0);
        Due.due("two of three with rank 0", Due.house("pits 3;lay 1 1 1;").best(), 0);
    }

    private static void worths() {
        Due.says(23, "WORTH of a MOVE from a PIT; SPENT: also if it can't be.");
        SowingHouse x = Due.house("pits 2;lay 0 1;");
        int[] worths = {SPENT, -1, SPENT, SPENT};
        for (int p = 0; p < 4; p++) {
            Due.due("worth(" + p + ")", x.worth(p), worths[p]);
        }
        Due.due("worth(-1)", x.worth(-1), SPENT);
        Due.due("worth(4)", x.worth(4), SPENT);
        for (int p : Due.FAR) {
            Due.due("worth(" + p + ")", x.worth(p), SPENT);
        }
        Due.due("lacking", Due.house("pits 2;lay 0 1;lacking 0;").worth(0), SPENT);
        Due.due("long", Due.house("pits 2;lay 1 2 2 2;relay 1;").worth(1), SPENT);
        Due.due("who must be fed", Due.house("pits 2;lay 1 1;feed;").worth(0), SPENT);
        Due.due("over", Due.house("pits 1;lay 1 2;relay 1;").worth(0), SPENT);
        Due.due("not solved", Due.house(NOT_SOLVED).worth(0), SPENT);
        Due.due("solved", Due.house("pits 6;lay 4;").worth(0) != SPENT, true);

        Due.says(23, "what it brings into the STORE, less VALUE of what comes of it (with the same SIDE to move: and VALUE).");
        SowingHouse again = Due.house("pits 2;lay 1 1;stores;again;");
        Due.due("one, and one more that stays with it", again.worth(1), 2);
        Due.due("the other has none", again.worth(0), 2);
        SowingHouse other = Due.house("pits 2;lay 0 1 1;stores;");
        Due.due("one, less the other's one", other.worth(1), 0);
    }

    // ---- promises 24 to 28

    private static void apart() {
        Due.says(24, "(LACKING is seen as SIDE 0 has it, if that SIDE is to move, else as SIDE 1 has it: POSITIONS of both SIDES are numbered apart.)");
        for (int side = 0; side < 2; side++) {
            SowingHouse x = Due.house(APART);
            for (int k = 0; k < 3; k++) {
                Due.due("valueOf(" + side + ", 1, " + k + ")", x.valueOf(side, 1, k), APART_VALUES[side][k]);
            }
        }

        Due.says(26, "what 0: RANK, 1: BEST, as the PIT is seen (NONE: OVER), 2: how many MOVES can be, 3: how many of these have the VALUE as WORTH, 10 + i: WORTH of the MOVE from the i-th PIT as it is seen (SPENT: it can't be).");
        for (int side = 0; side < 2; side++) {
            SowingHouse x = Due.house(APART);
            for (int k = 0; k < 3; k++) {
                int can = APART_BESTS[side][k] == -1 ? 0 : 1;
                String row = "row(" + side + ", 1, " + k + ", ";
                Due.due(row + "0)", x.row(side, 1, k, 0), APART_RANKS[side][k]);
                Due.due(row + "1)", x.row(side, 1, k, 1), APART_BESTS[side][k]);
                Due.due(row + "2)", x.row(side, 1, k, 2), can);
                Due.due(row + "3)", x.row(side, 1, k, 3), can);
                Due.due(row + "10)", x.row(side, 1, k, 10), APART_WORTHS_0[side][k]);
                Due.due(row + "11)", x.row(side, 1, k, 11), APART_WORTHS_1[side][k]);
            }
        }
        SowingHouse two = Due.house("pits 2;stores;");
        Due.due("two moves", two.row(0, 2, 1, 2), 2);
        Due.due("both are best", two.row(1, 2, 1, 3), 2);
        SowingHouse three = Due.house("pits 2;take opposite;");
        Due.due("1 0 1 0, one move", three.row(0, 2, 2, 2), 1);
        Due.due("two must feed", Due.house("pits 2;feed;").row(0, 2, 1, 2), 1);
        SowingHouse six = Due.house("pits 6;");
        Due.due("the first of 10 to 15", six.row(0, 1, 0, 10), 1);
        Due.due("the last of 10 to 15", six.row(0, 1, 5, 15), -1);
    }

    private static void throwsOfValues() {
        Due.says(24, "Throws as ofPlace(), in that order (SPENT: it isn't SOLVED).");
        int[] bad = {-1, Integer.MIN_VALUE, Integer.MAX_VALUE};
        for (int wrong : bad) {
            Due.refused(Due.NO_ELEMENT, "side " + wrong, NOT_SOLVED, x -> x.valueOf(wrong, 1, 0));
            Due.refused(Due.NO_ELEMENT, "side " + wrong + ", s, k", NOT_SOLVED, x -> x.valueOf(wrong, wrong, wrong));
            Due.refused(Due.ARGUMENT, "s " + wrong, NOT_SOLVED, x -> x.valueOf(0, wrong, 0));
            Due.refused(Due.ARGUMENT, "s " + wrong + ", k", NOT_SOLVED, x -> x.valueOf(0, wrong, wrong));
            Due.refused(Due.STATE, "spent, k " + wrong, NOT_SOLVED, x -> x.valueOf(0, 5, wrong));
            Due.refused(Due.NO_ELEMENT, "k " + wrong, NOT_SOLVED, x -> x.valueOf(0, 1, wrong));
        }
        Due.refused(Due.NO_ELEMENT, "side 2", NOT_SOLVED, x -> x.valueOf(2, 1, 0));
        Due.refused(Due.ARGUMENT, "s 41", NOT_SOLVED, x -> x.valueOf(1, 41, 0));
        Due.refused(Due.STATE, "5 of 12", NOT_SOLVED, x -> x.valueOf(1, 5, 0));
        Due.refused(Due.STATE, "40 of 12", NOT_SOLVED, x -> x.valueOf(1, 40, 0));
        Due.refused(Due.NO_ELEMENT, "k 12 of 12", NOT_SOLVED, x -> x.valueOf(1, 1, 12));
        Due.due("k 11 of 12", Due.house(NOT_SOLVED).valueOf(1, 1, 11), -1);
        Due.due("s 0", Due.house(NOT_SOLVED).valueOf(0, 0, 0), 0);
        Due.due("s 40 of 2", Due.house("pits 1;").valueOf(0, 40, 40), -40);

        Due.says(26, "Throws as valueOf(); behind these IllegalArgumentException: another what (10 to 9 + n).");
        for (int wrong : bad) {
            Due.refused(Due.NO_ELEMENT, "row, side " + wrong, NOT_SOLVED, x -> x.row(wrong, wrong, wrong, wrong));
            Due.refused(Due.ARGUMENT, "row, s " + wrong, NOT_SOLVED, x -> x.row(0, wrong, wrong, wrong));
            Due.refused(Due.STATE, "row, spent, k " + wrong, NOT_SOLVED, x -> x.row(0, 5, wrong, wrong));
            Due.refused(Due.NO_ELEMENT, "row, k " + wrong, NOT_SOLVED, x -> x.row(0, 1, wrong, wrong));
            Due.refused(Due.ARGUMENT, "row, what " + wrong, NOT_SOLVED, x -> x.row(0, 1, 0, wrong));
        }
        Due.refused(Due.NO_ELEMENT, "row, side 2", NOT_SOLVED, x -> x.row(2, 1, 0, 0));
        Due.refused(Due.ARGUMENT, "row, s 41", NOT_SOLVED, x -> x.row(0, 41, 0, 0));
        Due.refused(Due.STATE, "row, spent", NOT_SOLVED, x -> x.row(0, 5, 0, 0));
        Due.refused(Due.NO_ELEMENT, "row, k 12 of 12", NOT_SOLVED, x -> x.row(0, 1, 12, 0));
        for (int n = 1; n <= 6; n++) {
            for (int what : new int[] {4, 9, 10 + n}) {
                Due.refused(Due.ARGUMENT, "row, what " + what + ", " + n + " a side", "pits " + n + ";", x -> x.row(0, 0, 0, what));
                Due.refused(Due.ARGUMENT, "row of side 1, what " + what + ", " + n + " a side", "pits " + n + ";", x -> x.row(1, 0, 0, what));
            }
            Due.due("row, what " + (9 + n), Due.house("pits " + n + ";").row(1, 0, 0, 9 + n), SPENT);
        }
    }

    private static void tallies() {
        Due.says(25, "have a VALUE above 0 (what 0), 0 (1), below (2), that are OVER (3)");
        for (int n = 2; n <= 6; n++) {
            SowingHouse x = Due.house("pits " + n + ";");
            int[] dues = {n - 1, 0, n + 1, n};
            for (int what = 0; what < 4; what++) {
                Due.due("of one seed, " + n + " pits a side, what " + what, x.tally(what % 2, 1, what), dues[what]);
                Due.due("of none, what " + what, x.tally(what % 2, 0, what), what % 2);
            }
        }
        SowingHouse apart = Due.house(APART);
        for (int s = 0; s <= 6; s++) {
            Due.due("over, all in one pit", apart.tally(0, s, 3), 1);
            Due.due("over, all in two pits", apart.tally(1, s, 3), s + 1);
        }
        SowingHouse ring = Due.house("pits 1;");
        Due.due("a ring is 0", ring.tally(0, 1, 1), 1);
        Due.due("the other one is over", ring.tally(0, 1, 2) * 10 + ring.tally(0, 1, 3), 11);
        Due.due("no pits", Due.house("pits 1;lacking 0;lacking 1;").tally(0, 40, 1), 0);

        Due.says(25, "IllegalArgumentException: s, another what; IllegalStateException: SPENT.");
        for (int wrong : new int[] {-1, Integer.MIN_VALUE, Integer.MAX_VALUE}) {
            Due.refused(Due.NO_ELEMENT, "tally, side " + wrong, NOT_SOLVED, x -> x.tally(wrong, wrong, wrong));
            Due.refused(Due.ARGUMENT, "tally, s " + wrong, NOT_SOLVED, x -> x.tally(0, wrong, 0));
            Due.refused(Due.ARGUMENT, "tally, what " + wrong, NOT_SOLVED, x -> x.tally(0, 1, wrong));
            Due.refused(Due.ARGUMENT, "tally, spent, what " + wrong, NOT_SOLVED, x -> x.tally(0, 5, wrong));
        }
        Due.refused(Due.NO_ELEMENT, "tally, side 2", NOT_SOLVED, x -> x.tally(2, 1, 0));
        Due.refused(Due.ARGUMENT, "tally, s 41", NOT_SOLVED, x -> x.tally(0, 41, 0));
        Due.refused(Due.ARGUMENT, "tally, what 4", NOT_SOLVED, x -> x.tally(0, 1, 4));
        Due.refused(Due.ARGUMENT, "tally, spent, what 4", NOT_SOLVED, x -> x.tally(0, 5, 4));
        Due.refused(Due.STATE, "tally, spent", NOT_SOLVED, x -> x.tally(0, 5, 3));
        Due.refused(Due.STATE, "tally, 40", NOT_SOLVED, x -> x.tally(1, 40, 0));
        Due.due("tally, 4", Due.house(NOT_SOLVED).tally(0, 4, 3), 126);
    }

    private static void finds() {
        Due.says(27, "The k-th POSITION of s seeds of a SIDE that has just that VALUE, from 0 on; NONE: not so many.");
        SowingHouse x = Due.house("pits 3;");
        int[] above = {0, 1, -1};
        int[] below = {2, 3, 4, 5, -1};
        for (int k = 0; k < above.length; k++) {
            Due.due("find(0, 1, 1, " + k + ")", x.find(0, 1, 1, k), above[k]);
        }
        for (int k = 0; k < below.length; k++) {
            Due.due("find(1, 1, -1, " + k + ")", x.find(1, 1, -1, k), below[k]);
        }
        for (int k : new int[] {-1, -2, Integer.MIN_VALUE, Integer.MAX_VALUE}) {
            Due.due("find(0, 1, 1, " + k + ")", x.find(0, 1, 1, k), -1);
        }
        for (int value : new int[] {0, 2, -2, 1000, SPENT, Integer.MIN_VALUE, Integer.MAX_VALUE}) {
            Due.due("find(0, 1, " + value + ", 0)", x.find(0, 1, value, 0), -1);
        }
        Due.due("no seeds", x.find(0, 0, 0, 0), 0);
        Due.due("no seeds, a second", x.find(0, 0, 0, 1), -1);
        SowingHouse apart = Due.house(APART);
        Due.due("side 0", apart.find(0, 1, 1, 1), 1);
        Due.due("side 1", apart.find(1, 1, 1, 0), -1);

        Due.says(27, "NoSuchElementException: the SIDE; IllegalArgumentException: s; IllegalStateException: it isn't SOLVED.");
        for (int wrong : new int[] {-1, Integer.MIN_VALUE, Integer.MAX_VALUE}) {
            Due.refused(Due.NO_ELEMENT, "find, side " + wrong, NOT_SOLVED, y -> y.find(wrong, wrong, 0, 0));
            Due.refused(Due.ARGUMENT, "find, s " + wrong, NOT_SOLVED, y -> y.find(0, wrong, 0, 0));
        }
        Due.refused(Due.NO_ELEMENT, "find, side 2", NOT_SOLVED, y -> y.find(2, 1, 0, 0));
        Due.refused(Due.ARGUMENT, "find, s 41", NOT_SOLVED, y -> y.find(0, 41, 0, 0));
        Due.refused(Due.STATE, "find, 5", NOT_SOLVED, y -> y.find(0, 5, 0, 0));
        Due.refused(Due.STATE, "find, 5, k -1", NOT_SOLVED, y -> y.find(0, 5, 0, -1));
        Due.due("find, 4", Due.house(NOT_SOLVED).find(0, 4, 5, 0), -1);
    }

    private static void mosts() {
        Due.says(28, "what 0: the greatest VALUE, 1: the first POSITION with it, 2: the least VALUE, 3: the first with it, 4: the greatest RANK, 5: the first with it");
        for (int n = 2; n <= 6; n++) {
            SowingHouse x = Due.house("pits " + n + ";");
            int[] dues = {1, 0, -1, n - 1, 2, n - 1};
            for (int what = 0; what < 6; what++) {
                Due.due("of one seed, " + n + " pits a side, what " + what, x.most(what % 2, 1, what), dues[what]);
                Due.due("of none, what " + what, x.most(what % 2, 0, what), 0);
            }
        }
        SowingHouse apart = Due.house(APART);
        int[][] dues = {{1, 0, -1, 2, 3, 1}, {-1, 0, -1, 0, 2, 0}};
        for (int what = 0; what < 6; what++) {
            Due.due("side 0, what " + what, apart.most(0, 1, what), dues[0][what]);
            Due.due("side 1, what " + what, apart.most(1, 1, what), dues[1][what]);
        }
        Due.due("the least of 40", Due.house("pits 1;").most(0, 40, 2), -40);
        Due.due("the first with it", Due.house("pits 1;").most(0, 40, 3), 40);

        Due.says(28, "Throws likewise; IllegalArgumentException: also another what.");
        for (int wrong : new int[] {-1, Integer.MIN_VALUE, Integer.MAX_VALUE}) {
            Due.refused(Due.NO_ELEMENT, "most, side " + wrong, NOT_SOLVED, x -> x.most(wrong, wrong, wrong));
            Due.refused(Due.ARGUMENT, "most, s " + wrong, NOT_SOLVED, x -> x.most(0, wrong, 0));
            Due.refused(Due.ARGUMENT, "most, what " + wrong, NOT_SOLVED, x -> x.most(0, 1, wrong));
        }
        Due.refused(Due.NO_ELEMENT, "most, side 2", NOT_SOLVED, x -> x.most(2, 1, 0));
        Due.refused(Due.ARGUMENT, "most, s 41", NOT_SOLVED, x -> x.most(0, 41, 0));
        Due.refused(Due.ARGUMENT, "most, what 6", NOT_SOLVED, x -> x.most(0, 1, 6));
        Due.refused(Due.STATE, "most, 5", NOT_SOLVED, x -> x.most(0, 5, 5));
        Due.refused(Due.STATE, "most, 40", NOT_SOLVED, x -> x.most(1, 40, 0));
        Due.due("most, 4", Due.house(NOT_SOLVED).most(0, 4, 0), 4);
    }

    // ---- promises 29 and 30

    private static void swapped() {
        Due.says(29, "VALUE now, were the other SIDE to move (as it would see it); SPENT.");
        Due.due("no seeds", Due.house("pits 2;").swapped(), 0);
        Due.due("side 1 has none", Due.house("pits 2;lay 2 1;").swapped(), -3);
        Due.due("side 0 has none", Due.house("pits 2;lay 0 0 2 1;first 1;").swapped(), -3);
        Due.due("side 0 is over, side 1 isn't", Due.house("pits 2;lay 0 0 1;").swapped(), 1);
        SowingHouse apart = Due.house(APART);
        Due.due("side 1 sees it in its last pit", apart.swapped(), -1);
        SowingHouse one = Due.house("pits 2;lay 0 1;lacking 2;first 1;");
        Due.due("side 0 sees it in its second", one.swapped(), 1);
        Due.dueOnly("nothing changes", one, x -> x.swapped(), 1);
        Due.due("spent", Due.house(NOT_SOLVED).swapped(), SPENT);
        Due.due("solved", Due.house("pits 6;lay 4;").swapped(), -4);
    }

    private static void line() {
        Due.says(30, "BEST MOVES from now on, till it is OVER, a POSITION (with who is to move) comes again that was in it (the MOVE that leads there is in it), or there are 60.");
        dueLine("pits 2;lay 0 0 1;stored 3 1;", 0, 1, new int[] {});
        dueLine("pits 2;lay 0 1;stored 3 1;", 0, 1, new int[] {1, 2});
        dueLine("pits 1;lay 1 1;stored 3 1;", 1, 2, new int[] {0, 1});
        dueLine("pits 1;lay 1;", 1, 0, new int[] {0, 1});
        dueLine("pits 1;lay 1 1;skip;", 1, 0, new int[] {0, 1, 0});
        dueLine("pits 1;lay 1 1;skip;first 1;", 1, 0, new int[] {1, 0, 1});
        for (String lay : new String[] {"pits 2;lay 3 3 3 3;", "pits 2;lay 4 3 2 1;first 1;", "pits 3;lay 1 1 1 1 1 1;",
            "pits 3;lay 2 1 0 0 1 2;", "pits 1;lay 7 9;", "pits 2;lay 3 0 4 2;lacking 1;"}) {
            for (String rules : new String[] {"", "stores;", "stores;again;take opposite;", "take grand;feed;", "stores;skip;relay 4;"}) {
                dueLineByMoves(lay + rules);
            }
        }
        for (String text : new String[] {"pits 2;lay 2 0 1;stores;feed;", "pits 1;lay 2;stores;take grand;again;",
            "pits 2;lay 0 2 1 1;stores;feed;again;", "pits 3;lay 1 1 2 1 2 1;stores;"}) {
            dueLineByMoves(text);
        }
        SowingHouse full = Due.house("pits 4;lay 0 1 0 0 0 2 0 3;feed;");
        Due.due("60 and no ring", full.line(-1) * 10 + full.line(-2), 600);
        Due.due("the 60th", full.line(59) >= 0, true);
        Due.due("no 61st", full.line(60), -1);
        SowingHouse last = Due.house("pits 4;lay 2 2 2;feed;relay 17;");
        Due.due("the 60th leads to a ring", last.line(-1) * 10 + last.line(-2), 601);
        SowingHouse gain = Due.house("pits 2;lay 2 3;take opposite;feed;");
        Due.due("a ring behind 2 more", gain.line(-3) * 10 + gain.line(-2), 21);

        Due.says(30, "k NONE: how many MOVES, -2: 1 if a POSITION came again (else 0), -3: SCORE at its end, else the PIT of MOVE k; NONE: not so many.");
        SowingHouse x = Due.house("pits 2;lay 0 1;stored 3 1;");
        int[] dues = {1, 0, 2, 1, 2, -1, -1};
        for (int k = -3; k < 4; k++) {
            int asked = k;
            Due.dueOnly("line(" + k + ")", x, y -> y.line(asked), dues[k + 3]);
        }
        Due.due("line(99)", x.line(99), -1);
        Due.due("line(100)", x.line(100), -1);
        Due.due("line(max)", x.line(Integer.MAX_VALUE), -1);
        Due.due("over: line(0)", Due.house("pits 2;").line(0), -1);

        Due.says(30, "IllegalArgumentException: k is below -3; IllegalStateException: SPENT.");
        for (int k : new int[] {-4, -5, Integer.MIN_VALUE}) {
            Due.refused(Due.ARGUMENT, "line(" + k + ")", "pits 2;lay 1;", y -> y.line(k));
            Due.refused(Due.ARGUMENT, "line(" + k + "), spent", NOT_SOLVED, y -> y.line(k));
        }
        for (int k : new int[] {-3, -2, -1, 0, 60, Integer.MAX_VALUE}) {
            Due.refused(Due.STATE, "line(" + k + "), spent", NOT_SOLVED, y -> y.line(k));
        }
        Due.due("solved", Due.house("pits 6;lay 4;").line(-1) > 0, true);
    }

    /** THE LINE as best() and move() alone go along it. */
    private static void dueLineByMoves(String text) {
        SowingHouse x = Due.house(text);
        SowingHouse by = Due.house(text);
        List<String> seen = new ArrayList<>();
        boolean ring = false;
        int made = 0;
        while (made < 60 && !ring && by.best() != -1) {
            seen.add(by.count(2) + "/" + by.place() + "/" + by.mover());
            Due.due("move " + made + ", " + text, x.line(made), by.best());
            by.move(by.best());
            made++;
            ring = seen.contains(by.count(2) + "/" + by.place() + "/" + by.mover());
        }
        Due.due("how many, " + text, x.line(-1), made);
        Due.due("ring, " + text, x.line(-2), ring ? 1 : 0);
        Due.due("score, " + text, x.line(-3), by.score());
        Due.due("no more, " + text, x.line(made), -1);
    }

    private static void dueLine(String text, int ring, int score, int[] pits) {
        SowingHouse x = Due.house(text);
        Due.due("how many, " + text, x.line(-1), pits.length);
        Due.due("ring, " + text, x.line(-2), ring);
        Due.due("score, " + text, x.line(-3), score);
        for (int k = 0; k < pits.length; k++) {
            Due.due("move " + k + ", " + text, x.line(k), pits[k]);
        }
        Due.due("no more, " + text, x.line(pits.length), -1);
    }

    public static void main(String[] args) {
        positions();
        place();
        ofPlace();
        whatIsSolved();
        values();
        otherRules();
        bestOfSeveral();
        worths();
        apart();
        throwsOfValues();
        tallies();
        finds();
        mosts();
        swapped();
        line();
        Due.end(17, 30);
    }
}
