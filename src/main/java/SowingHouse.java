import java.util.NoSuchElementException;

/** Boards of two rows of pits and two stores: moves, positions, values of best play, and plays. */
public final class SowingHouse {
    public static final int NONE = -1;
    public static final int SPENT = -1000;

    private static final int PITS = 12;
    /** Behind the pits a board has one cell for each store, so that sowing needs one row alone. */
    private static final int STORE = PITS;
    private static final int CELLS = PITS + 2;
    private static final int OWN_PITS = 6;
    private static final int SEEDS = 40;
    private static final int TAPE = 500;
    private static final int TRAYS = 4;
    private static final int PLACES = 40;
    private static final int IMAGES = 3;
    private static final int KEPT_MOVES = 40;
    private static final int LINE_MOVES = 60;
    private static final int PLAY_MOVES = 100;
    private static final int SOONEST_MOVES = 6;
    private static final int PLAYS_MOVES = 5;
    private static final int REACHED_MOVES = 4;

    private static final int SOLVABLE = 6000;
    /** No board has more positions of one number of seeds, if it is solved (9 pits of 6, 11 of 5). */
    private static final int LEVEL = 3003;

    private static final int TAKE_NONE = 0;
    private static final int TAKE_OPPOSITE = 1;
    private static final int TAKE_GRAND = 2;
    private static final int TAKE_STARVE = 3;

    private static final int NOT_OWN = 1;
    private static final int EMPTY = 2;
    private static final int LONG = 3;
    private static final int UNFED = 4;
    private static final int OVER = 5;

    private final Rules rules = new Rules();
    private final Ground ground = new Ground(rules);
    private final Sower sower = new Sower(rules, ground);
    private final Scene now = new Scene();
    private final Scene other = new Scene();
    private final Past past = new Past();
    private final Reader reader = new Reader();
    private final Solver solver = new Solver(rules, ground, sower);
    private final Walker walker = new Walker(sower, solver);
    private final Explorer explorer = new Explorer(rules, sower);
    private final Tray[] trays = new Tray[TRAYS];
    private final Image[] images = new Image[IMAGES];

    public SowingHouse() {
        for (int i = 0; i < TRAYS; i++) {
            trays[i] = new Tray();
        }
        for (int i = 0; i < IMAGES; i++) {
            images[i] = new Image();
        }
    }

    // ---- the board

    public int feed(int a, int b, int c, int d, int e) {
        if (reader.size + 20 > TAPE) {
            return NONE;
        }
        reader.append(a);
        reader.append(b);
        reader.append(c);
        reader.append(d);
        reader.append(e);
        return reader.size;
    }

    public int board(int n) throws IllegalArgumentException {
        if (n < 0 || n > reader.size) {
            throw new IllegalArgumentException("not so many bytes on the tape");
        }
        reader.read(n);
        reader.size = 0;
        if (reader.fault != 0) {
            return -10 - reader.fault;
        }
        settle(reader.rules, reader.scene);
        return rules.lines;
    }

    public int fault(int what) {
        switch (what) {
            case 0:
                return reader.fault;
            case 1:
                return reader.place;
            default:
                return NONE;
        }
    }

    public int pit(int p) throws NoSuchElementException {
        if (p < 0 || p >= 2 * rules.perSide) {
            throw new NoSuchElementException("no such pit");
        }
        return seedsOrLacking(now, p);
    }

    public int store(int side) throws NoSuchElementException {
        needSide(side);
        return now.cells[STORE + side];
    }

    public int mover() {
        return now.side;
    }

    // ---- moves

    public int may(int p) {
        return sower.reason(now, p);
    }

    public int move(int p) {
        int why = sower.reason(now, p);
        if (why != 0) {
            return -why;
        }
        past.keep(now, p);
        sower.sow(now, p);
        return sower.brought;
    }

    public int sown(int p, int what) throws NoSuchElementException, IllegalStateException, IllegalArgumentException {
        if (!sower.isOwn(now, p) || now.cells[p] == 0) {
            throw new NoSuchElementException("no seeds of who is to move there");
        }
        other.copy(now);
        if (!sower.sow(other, p)) {
            throw new IllegalStateException("the move is long");
        }
        switch (what) {
            case 0:
                return sower.last < PITS ? sower.last : NONE;
            case 1:
                return sower.rounds;
            case 2:
                return sower.taken;
            case 3:
                return other.side;
            default:
                throw new IllegalArgumentException("no such what");
        }
    }

    public boolean undo() {
        if (past.done == 0) {
            return false;
        }
        past.back(now);
        return true;
    }

    public boolean redo() {
        if (past.undone == 0) {
            return false;
        }
        sower.sow(now, past.again());
        return true;
    }

    public boolean over() {
        return sower.isOver(now);
    }

    public int score() {
        return sower.scoreOf(now);
    }

    public int judge(int tray, int what) throws NoSuchElementException, IllegalStateException, IllegalArgumentException {
        Tray from = laidTray(tray);
        if (what < 0 || what > 3) {
            throw new IllegalArgumentException("no such what");
        }
        other.copy(now);
        int failing = NONE;
        int why = 0;
        for (int i = 0; i < from.many && failing == NONE; i++) {
            why = sower.reason(other, from.numbers[i]);
            if (why == 0) {
                sower.sow(other, (int) from.numbers[i]);
            } else {
                failing = i;
            }
        }
        switch (what) {
            case 0:
                return failing;
            case 1:
                return why;
            case 2:
                return sower.scoreOf(other);
            default:
                return other.side;
        }
    }

    public int perform(int tray) throws NoSuchElementException, IllegalStateException {
        Tray from = laidTray(tray);
        int made = 0;
        while (made < from.many && sower.reason(now, from.numbers[made]) == 0) {
            int p = (int) from.numbers[made];
            past.keep(now, p);
            sower.sow(now, p);
            made++;
        }
        return made;
    }

    // ---- positions

    public int positions(int side, int s) throws NoSuchElementException, IllegalArgumentException {
        needSide(side);
        needSeeds(s);
        int many = ground.positionsOf(s);
        return many > SOLVABLE ? SPENT : many;
    }

    public int place() {
        int s = now.inPits();
        return ground.positionsOf(s) > SOLVABLE ? SPENT : ground.numberOf(now, s);
    }

    public int ofPlace(int side, int s, int k, int i) throws NoSuchElementException, IllegalArgumentException, IllegalStateException, IndexOutOfBoundsException {
        needSide(side);
        needSeeds(s);
        int many = ground.positionsOf(s);
        if (many > SOLVABLE) {
            throw new IllegalStateException("too many positions");
        }
        needPosition(k, many);
        if (i < 0 || i >= 2 * rules.perSide) {
            throw new IndexOutOfBoundsException("no such pit");
        }
        ground.lay(other, side, s, k);
        return seedsOrLacking(other, ground.pitAsSeen(side, i));
    }

    // ---- best play

    public int value() {
        return solver.reach(now.inPits()) ? solver.valueAt(now) : SPENT;
    }

    public int rank() {
        return solver.reach(now.inPits()) ? solver.rankAt(now) : NONE;
    }

    public int best() {
        return solver.reach(now.inPits()) ? solver.bestAt(now) : NONE;
    }

    public int worth(int p) {
        return sower.isOwn(now, p) && solver.reach(now.inPits()) ? solver.worthBy(now, p) : SPENT;
    }

    public int valueOf(int side, int s, int k) throws NoSuchElementException, IllegalArgumentException, IllegalStateException {
        laySolved(side, s, k);
        return solver.valueAt(other);
    }

    public int tally(int side, int s, int what) throws NoSuchElementException, IllegalArgumentException, IllegalStateException {
        needSide(side);
        needSeeds(s);
        if (what < 0 || what > 3) {
            throw new IllegalArgumentException("no such what");
        }
        needSolved(s);
        int many = 0;
        for (int k = 0; k < ground.positionsOf(s); k++) {
            if (solver.isOfKind(solver.indexOf(side, s, k), what)) {
                many++;
            }
        }
        return many;
    }

    public int row(int side, int s, int k, int what) throws NoSuchElementException, IllegalArgumentException, IllegalStateException {
        laySolved(side, s, k);
        int first = side * rules.perSide;
        if (what >= 10 && what < 10 + rules.perSide) {
            return solver.worthBy(other, first + what - 10);
        }
        switch (what) {
            case 0:
                return solver.rankAt(other);
            case 1:
                int p = solver.bestAt(other);
                return p == NONE ? NONE : p - first;
            case 2:
                return Integer.bitCount(sower.choices(other));
            case 3:
                return solver.manyBest(other);
            default:
                throw new IllegalArgumentException("no such what");
        }
    }

    public int find(int side, int s, int value, int k) throws NoSuchElementException, IllegalArgumentException, IllegalStateException {
        needSide(side);
        needSeeds(s);
        needSolved(s);
        int left = k;
        for (int i = 0; i < ground.positionsOf(s) && left >= 0; i++) {
            if (solver.values[solver.indexOf(side, s, i)] == value) {
                if (left == 0) {
                    return i;
                }
                left--;
            }
        }
        return NONE;
    }

    public int most(int side, int s, int what) throws NoSuchElementException, IllegalArgumentException, IllegalStateException {
        needSide(side);
        needSeeds(s);
        if (what < 0 || what > 5) {
            throw new IllegalArgumentException("no such what");
        }
        needSolved(s);
        int found = NONE;
        int top = NONE;
        for (int k = 0; k < ground.positionsOf(s); k++) {
            int it = solver.measure(solver.indexOf(side, s, k), what / 2);
            if (found == NONE || it > top) {
                found = k;
                top = it;
            }
        }
        if (found == NONE || what % 2 == 1) {
            return found;
        }
        return what == 2 ? -top : top;
    }

    public int swapped() {
        if (!solver.reach(now.inPits())) {
            return SPENT;
        }
        other.copy(now);
        other.side = 1 - now.side;
        return solver.valueAt(other);
    }

    public int line(int k) throws IllegalArgumentException, IllegalStateException {
        if (k < -3) {
            throw new IllegalArgumentException("no such k");
        }
        needSolved(now.inPits());
        walker.goByBest(now);
        switch (k) {
            case -3:
                return sower.scoreOf(walker.at);
            case -2:
                return walker.ring ? 1 : 0;
            case NONE:
                return walker.many;
            default:
                return k < walker.many ? walker.steps[k] : NONE;
        }
    }

    // ---- plays

    public int plays(int d) throws IllegalArgumentException {
        if (d < 0 || d > PLAYS_MOVES) {
            throw new IllegalArgumentException("no such d");
        }
        return explorer.countFrom(now, d);
    }

    public int reached(int d) throws IllegalArgumentException {
        if (d < 0 || d > REACHED_MOVES) {
            throw new IllegalArgumentException("no such d");
        }
        return explorer.countUnlike(now, d);
    }

    public int soonest(int k) {
        int many = explorer.seekEnd(now);
        if (k == NONE) {
            return many;
        }
        return k >= 0 && k < many ? explorer.path[k] : NONE;
    }

    public int pits(int what) throws IllegalArgumentException {
        if (what < 0 || what > 2) {
            throw new IllegalArgumentException("no such what");
        }
        int can = sower.choices(now);
        int found = 0;
        for (int p = 0; p < PITS; p++) {
            if (has(can, p) && isNotable(p, what)) {
                found |= 1 << p;
            }
        }
        return found;
    }

    public int forced() {
        walker.goWhileForced(now);
        return walker.many;
    }

    public int play(int seed, int what) throws IllegalArgumentException {
        if (what < 0 || what > 2) {
            throw new IllegalArgumentException("no such what");
        }
        walker.goByDraws(now, seed, false);
        return toldOfPlay(what);
    }

    public int against(int seed, int what) throws IllegalStateException, IllegalArgumentException {
        needSolved(now.inPits());
        if (what < 0 || what > 2) {
            throw new IllegalArgumentException("no such what");
        }
        walker.goByDraws(now, seed, true);
        return toldOfPlay(what);
    }

    // ---- trays, images

    public void tray(int tray, int sort, int many) throws NoSuchElementException, IllegalArgumentException {
        Tray it = anyTray(tray);
        if (sort < 0 || sort > 3 || many < 0 || many > PLACES) {
            throw new IllegalArgumentException("no such sort or size");
        }
        it.lay(sort, many);
    }

    public long write(int tray, int place, long v) throws NoSuchElementException, IllegalStateException, IndexOutOfBoundsException {
        Tray it = laidTray(tray);
        if (place < 0 || place >= it.many) {
            throw new IndexOutOfBoundsException("no such place");
        }
        it.numbers[place] = it.cut(v);
        return it.numbers[place];
    }

    public int pour(int tray) throws NoSuchElementException, IllegalStateException {
        Tray it = laidTray(tray);
        int many = Math.min(past.done, it.many);
        for (int i = 0; i < many; i++) {
            it.numbers[i] = past.moveAt(i);
        }
        return many;
    }

    public void image(int i) throws NoSuchElementException {
        Image it = anyImage(i);
        it.made = true;
        it.rules.copy(rules);
        it.scene.copy(now);
    }

    public void restore(int i) throws NoSuchElementException, IllegalStateException {
        Image it = anyImage(i);
        if (!it.made) {
            throw new IllegalStateException("no image was made");
        }
        settle(it.rules, it.scene);
    }

    public int count(int what) {
        switch (what) {
            case 0:
                return rules.lines;
            case 1:
                return rules.perSide;
            case 2:
                return now.inPits();
            case 3:
                return Integer.bitCount(rules.lacking);
            case 4:
                return past.done;
            case 5:
                return past.undone;
            case 6:
                return reader.size;
            default:
                return NONE;
        }
    }

    // ---- what several calls need

    private static boolean has(int bits, int p) {
        return (bits >>> p & 1) == 1;
    }

    private static void needSide(int side) {
        if (side < 0 || side > 1) {
            throw new NoSuchElementException("no such side");
        }
    }

    private static void needSeeds(int s) {
        if (s < 0 || s > SEEDS) {
            throw new IllegalArgumentException("not 0 to 40 seeds");
        }
    }

    private static void needPosition(int k, int many) {
        if (k < 0 || k >= many) {
            throw new NoSuchElementException("no such position");
        }
    }

    private void needSolved(int s) {
        if (!solver.reach(s)) {
            throw new IllegalStateException("too many positions");
        }
    }

    /** Lays a solved position into the other scene, if there is such a one. */
    private void laySolved(int side, int s, int k) {
        needSide(side);
        needSeeds(s);
        if (!solver.reach(s)) {
            throw new IllegalStateException("too many positions");
        }
        needPosition(k, ground.positionsOf(s));
        ground.lay(other, side, s, k);
    }

    private Tray anyTray(int tray) {
        if (tray < 0 || tray >= TRAYS) {
            throw new NoSuchElementException("no such tray");
        }
        return trays[tray];
    }

    private Tray laidTray(int tray) {
        Tray it = anyTray(tray);
        if (it.sort == NONE) {
            throw new IllegalStateException("the tray is missing");
        }
        return it;
    }

    private Image anyImage(int i) {
        if (i < 0 || i >= IMAGES) {
            throw new NoSuchElementException("no such image");
        }
        return images[i];
    }

    private void settle(Rules newRules, Scene newScene) {
        rules.copy(newRules);
        ground.build();
        now.copy(newScene);
        past.forget();
    }

    private int seedsOrLacking(Scene scene, int p) {
        return rules.isLacking(p) ? NONE : scene.cells[p];
    }

    private boolean isNotable(int p, int what) {
        other.copy(now);
        sower.sow(other, p);
        switch (what) {
            case 0:
                return sower.last >= PITS;
            case 1:
                return sower.taken > 0;
            default:
                return other.inRow(1 - now.side, rules.perSide) == 0;
        }
    }

    private int toldOfPlay(int what) {
        switch (what) {
            case 0:
                return sower.scoreOf(walker.at);
            case 1:
                return walker.many;
            default:
                return sower.isOver(walker.at) ? 1 : 0;
        }
    }

    /** The rules of a board, and which pits are lacking. */
    private static final class Rules {
        int lines;
        int perSide = 3;
        int lacking;
        int relay;
        int take = TAKE_NONE;
        boolean stores;
        boolean skip;
        boolean again;
        boolean feeds;

        void clear() {
            lines = 0;
            perSide = 3;
            lacking = 0;
            relay = 0;
            take = TAKE_NONE;
            stores = false;
            skip = false;
            again = false;
            feeds = false;
        }

        void copy(Rules from) {
            lines = from.lines;
            perSide = from.perSide;
            lacking = from.lacking;
            relay = from.relay;
            take = from.take;
            stores = from.stores;
            skip = from.skip;
            again = from.again;
            feeds = from.feeds;
        }

        boolean isLacking(int p) {
            return (lacking >>> p & 1) == 1;
        }

        /** One number for all that moves depend on: what was solved stays good as long as it stays. */
        int key() {
            int flags = (stores ? 1 : 0) | (skip ? 2 : 0) | (again ? 4 : 0) | (feeds ? 8 : 0);
            return ((lacking << 3 | perSide) << 5 | relay) << 6 | take << 4 | flags;
        }
    }

    /** Seeds in pits and stores, and who is to move. */
    private static final class Scene {
        final int[] cells = new int[CELLS];
        int side;

        void clear() {
            for (int i = 0; i < CELLS; i++) {
                cells[i] = 0;
            }
            side = 0;
        }

        void copy(Scene from) {
            System.arraycopy(from.cells, 0, cells, 0, CELLS);
            side = from.side;
        }

        boolean isLike(Scene that) {
            for (int i = 0; i < CELLS; i++) {
                if (cells[i] != that.cells[i]) {
                    return false;
                }
            }
            return side == that.side;
        }

        int inPits() {
            int sum = 0;
            for (int p = 0; p < PITS; p++) {
                sum += cells[p];
            }
            return sum;
        }

        /** The pits (bits) with seeds of who is to move. */
        int filled(int perSide) {
            int bits = 0;
            for (int p = side * perSide; p < (side + 1) * perSide; p++) {
                if (cells[p] > 0) {
                    bits |= 1 << p;
                }
            }
            return bits;
        }

        int inRow(int whose, int perSide) {
            int sum = 0;
            for (int p = whose * perSide; p < (whose + 1) * perSide; p++) {
                sum += cells[p];
            }
            return sum;
        }
    }

    /** The tape, and how a board's text is read from it, token by token, up to its first fault. */
    private static final class Reader {
        private static final int END = 0;
        private static final int WORD = 1;
        private static final int NUMBER = 2;
        private static final int SIGN = 3;
        private static final int NO_TOKEN = 4;

        final Rules rules = new Rules();
        final Scene scene = new Scene();
        int fault;
        int place = NONE;
        /** How many bytes the tape has. */
        int size;

        private final int[] tape = new int[TAPE];
        private int length;
        private int kind;
        private int from;
        private int until;
        private int number;

        void append(int four) {
            for (int shift = 24; shift >= 0 && size < TAPE; shift -= 8) {
                tape[size] = four >>> shift & 255;
                size++;
            }
        }

        void read(int n) {
            rules.clear();
            scene.clear();
            fault = 0;
            place = NONE;
            length = n;
            until = 0;
            step();
            for (int i = 0; i < length && fault == 0 && kind != END; i++) {
                readLine();
            }
            if (fault == 0 && !isSound()) {
                fault = 5;
                place = length;
            }
        }

        private boolean isSound() {
            for (int p = 0; p < PITS; p++) {
                if (rules.isLacking(p) && scene.cells[p] > 0) {
                    return false;
                }
            }
            return scene.inPits() <= SEEDS;
        }

        /** Of several faults the first one stays. */
        private void refuse(int what) {
            if (fault == 0) {
                fault = what;
                place = from;
            }
        }

        private void readLine() {
            if (isWord("pits")) {
                readPerSide();
            } else if (isWord("lay")) {
                readSeeds();
            } else if (isWord("take")) {
                readTake();
            } else if (isWord("stored")) {
                step();
                scene.cells[STORE] = readNumber(0, 99);
                scene.cells[STORE + 1] = readNumber(0, 99);
            } else if (isWord("lacking")) {
                step();
                rules.lacking |= 1 << readNumber(0, 2 * rules.perSide - 1);
            } else if (isWord("first")) {
                step();
                scene.side = readNumber(0, 1);
            } else if (isWord("relay")) {
                step();
                rules.relay = readNumber(1, 20);
            } else {
                readFlag();
            }
            if (kind != SIGN) {
                refuse(2);
            }
            if (fault == 0) {
                rules.lines++;
                step();
            }
        }

        private void readPerSide() {
            if (rules.lines > 0) {
                refuse(2);
                return;
            }
            step();
            rules.perSide = readNumber(1, OWN_PITS);
        }

        /** Pits that this line doesn't tell keep what an earlier one told: what is told last strikes pit by pit. */
        private void readSeeds() {
            step();
            int p = 0;
            do {
                int seeds = checkedNumber(0, 20);
                if (fault == 0 && p >= 2 * rules.perSide) {
                    refuse(4);
                }
                if (fault != 0) {
                    return;
                }
                scene.cells[p] = seeds;
                p++;
                step();
            } while (kind == NUMBER && p <= PITS);
        }

        private void readTake() {
            step();
            if (isWord("none")) {
                rules.take = TAKE_NONE;
            } else if (isWord("opposite")) {
                rules.take = TAKE_OPPOSITE;
            } else if (isWord("grand")) {
                rules.take = TAKE_GRAND;
            } else {
                refuse(2);
                return;
            }
            step();
            if (rules.take == TAKE_GRAND && isWord("starve")) {
                rules.take = TAKE_STARVE;
                step();
            }
        }

        private void readFlag() {
            if (isWord("stores")) {
                rules.stores = true;
            } else if (isWord("skip")) {
                rules.skip = true;
            } else if (isWord("again")) {
                rules.again = true;
            } else if (isWord("feed")) {
                rules.feeds = true;
            } else {
                refuse(2);
                return;
            }
            step();
        }

        /** The number that stands here, or the least one behind a fault; it isn't stepped over. */
        private int checkedNumber(int least, int greatest) {
            if (kind != NUMBER) {
                refuse(2);
                return least;
            }
            if (number < least || number > greatest) {
                refuse(3);
                return least;
            }
            return number;
        }

        private int readNumber(int least, int greatest) {
            int it = checkedNumber(least, greatest);
            if (fault == 0) {
                step();
            }
            return it;
        }

        private boolean isWord(String word) {
            if (kind != WORD || until - from != word.length()) {
                return false;
            }
            for (int i = 0; i < word.length(); i++) {
                if (tape[from + i] != word.charAt(i)) {
                    return false;
                }
            }
            return true;
        }

        private void step() {
            from = until;
            while (from < length && (tape[from] == 10 || tape[from] == 32)) {
                from++;
            }
            until = from;
            if (from >= length) {
                kind = END;
            } else if (isDigit(from)) {
                stepNumber();
            } else if (isLetter(from)) {
                stepWord();
            } else if (tape[from] == ';') {
                kind = SIGN;
                until++;
            } else {
                kind = NO_TOKEN;
                refuse(1);
            }
        }

        private void stepNumber() {
            kind = NUMBER;
            number = 0;
            while (until < length && until - from < 4 && isDigit(until)) {
                number = 10 * number + tape[until] - '0';
                until++;
            }
            if (until - from > 3) {
                kind = NO_TOKEN;
                refuse(1);
            }
        }

        private void stepWord() {
            kind = WORD;
            while (until < length && isLetter(until)) {
                until++;
            }
        }

        private boolean isDigit(int i) {
            return tape[i] >= '0' && tape[i] <= '9';
        }

        private boolean isLetter(int i) {
            return tape[i] >= 'a' && tape[i] <= 'z';
        }
    }

    /** What follows from the rules alone: where sowing goes on to, how pits are seen, and numbers of positions. */
    private static final class Ground {
        private static final int WIDTH = SEEDS + 1;
        /** Counts stop here: all that matters of greater ones is that they are too great. */
        private static final int TOO_MANY = SOLVABLE + 1;

        /** By side and cell: the cell behind it on the side's way. */
        final int[] next = new int[2 * CELLS];
        /** How many pits aren't lacking. */
        int open;
        /** Whether both sides see the same pits lacking, and so the same positions. */
        boolean alike;
        /** Whether a move can be long at all. */
        boolean longOnes;

        private final Rules rules;
        /** By side: the pits that aren't lacking, as the side sees them. */
        private final int[] seen = new int[2 * PITS];
        /** By pits and seeds: how many ways the seeds can lie in the pits. */
        private final int[] ways = new int[(PITS + 2) * WIDTH];

        Ground(Rules rules) {
            this.rules = rules;
            countWays();
            build();
        }

        private void countWays() {
            ways[0] = 1;
            for (int pits = 1; pits < PITS + 2; pits++) {
                for (int s = 0; s <= SEEDS; s++) {
                    int without = ways[(pits - 1) * WIDTH + s];
                    int with = s == 0 ? 0 : ways[pits * WIDTH + s - 1];
                    ways[pits * WIDTH + s] = Math.min(TOO_MANY, without + with);
                }
            }
        }

        void build() {
            alike = true;
            for (int side = 0; side < 2; side++) {
                linkWay(side);
                listSeen(side);
            }
            longOnes = rules.relay > 0 || rules.skip && !rules.stores && open == 1;
        }

        private void linkWay(int side) {
            int base = side * CELLS;
            int first = NONE;
            int latest = NONE;
            for (int i = 0; i <= 2 * rules.perSide; i++) {
                int cell = cellOnWay(side, i);
                if (cell == NONE) {
                    continue;
                }
                if (first == NONE) {
                    first = cell;
                } else {
                    next[base + latest] = cell;
                }
                latest = cell;
            }
            if (latest != NONE) {
                next[base + latest] = first;
            }
        }

        /** The store comes behind the own pits; NONE: what would be there isn't on the way. */
        private int cellOnWay(int side, int i) {
            if (i == rules.perSide) {
                return rules.stores ? STORE + side : NONE;
            }
            int p = pitAsSeen(side, i < rules.perSide ? i : i - 1);
            return rules.isLacking(p) ? NONE : p;
        }

        private void listSeen(int side) {
            open = 0;
            for (int i = 0; i < 2 * rules.perSide; i++) {
                int p = pitAsSeen(side, i);
                if (rules.isLacking(p) != rules.isLacking(i)) {
                    alike = false;
                }
                if (!rules.isLacking(p)) {
                    seen[side * PITS + open] = p;
                    open++;
                }
            }
        }

        int pitAsSeen(int side, int i) {
            int p = side * rules.perSide + i;
            return p < 2 * rules.perSide ? p : p - 2 * rules.perSide;
        }

        int positionsOf(int s) {
            return ways[open * WIDTH + s];
        }

        /** Positions of s seeds and fewer: those that leave some seeds out, into one pit more. */
        int positionsUpTo(int s) {
            return s < 0 ? 0 : ways[(open + 1) * WIDTH + s];
        }

        /** Ahead of a position are those that have more in a pit, so fewer seeds behind it, and like ones ahead. */
        int numberOf(Scene scene, int s) {
            int base = scene.side * PITS;
            int rest = s;
            int number = 0;
            for (int j = 0; j < open && rest > 0; j++) {
                rest -= scene.cells[seen[base + j]];
                if (rest > 0) {
                    number += ways[(open - j) * WIDTH + rest - 1];
                }
            }
            return number;
        }

        void lay(Scene scene, int side, int s, int k) {
            scene.clear();
            scene.side = side;
            int base = side * PITS;
            int rest = s;
            int number = k;
            for (int j = 0; j < open && rest > 0; j++) {
                int counts = (open - j) * WIDTH;
                int behind = 0;
                while (behind < rest && number >= ways[counts + behind]) {
                    behind++;
                }
                if (behind > 0) {
                    number -= ways[counts + behind - 1];
                }
                scene.cells[seen[base + j]] = rest - behind;
                rest = behind;
            }
        }
    }

    /** Makes moves on scenes, and knows which can be. */
    private static final class Sower {
        /** Of the latest move: the cell where it ended, its rounds, what was taken, what came into the store. */
        int last;
        int rounds;
        int taken;
        int brought;

        /** Of the scene whose moves were tried latest, by pit as seen: what would come of each, and be brought. */
        final Scene[] after = new Scene[OWN_PITS];
        final int[] gains = new int[OWN_PITS];

        private final Rules rules;
        private final Ground ground;

        Sower(Rules rules, Ground ground) {
            this.rules = rules;
            this.ground = ground;
            for (int i = 0; i < OWN_PITS; i++) {
                after[i] = new Scene();
            }
        }

        boolean isOwn(Scene at, long p) {
            long i = p - at.side * rules.perSide;
            return i >= 0 && i < rules.perSide && !rules.isLacking((int) p);
        }

        /** Makes a move from an own pit with seeds. False: it is long; then the scene is left in disorder. */
        boolean sow(Scene at, int p) {
            int start = p;
            int before = at.cells[STORE + at.side];
            for (int round = 0; round <= rules.relay; round++) {
                if (rules.skip && ground.next[at.side * CELLS + start] == start) {
                    return false;
                }
                last = scatter(at, start);
                if (rules.relay == 0 || last >= PITS || at.cells[last] == 1) {
                    rounds = round;
                    taken = last >= PITS ? 0 : isOwn(at, last) ? takeOpposite(at) : takeGrand(at);
                    brought = at.cells[STORE + at.side] - before;
                    at.side = rules.again && last >= PITS ? at.side : 1 - at.side;
                    return true;
                }
                start = last;
            }
            return false;
        }

        private int scatter(Scene at, int start) {
            int[] cells = at.cells;
            int[] next = ground.next;
            int base = at.side * CELLS;
            int cell = start;
            int hand = cells[start];
            cells[start] = 0;
            for (; hand > 0; hand--) {
                cell = next[base + cell];
                if (cell == start && rules.skip) {
                    cell = next[base + cell];
                }
                cells[cell]++;
            }
            return cell;
        }

        private int takeOpposite(Scene at) {
            int facing = 2 * rules.perSide - 1 - last;
            if (rules.take != TAKE_OPPOSITE || at.cells[last] != 1 || at.cells[facing] == 0) {
                return 0;
            }
            int sum = at.cells[facing] + 1;
            at.cells[facing] = 0;
            at.cells[last] = 0;
            at.cells[STORE + at.side] += sum;
            return sum;
        }

        /** Seeds are taken backward from the last one on; lacking pits, always empty, are passed over. */
        private int takeGrand(Scene at) {
            if (rules.take != TAKE_GRAND && rules.take != TAKE_STARVE) {
                return 0;
            }
            int first = (1 - at.side) * rules.perSide;
            int sum = 0;
            int end = last;
            while (end >= first && (rules.isLacking(end) || at.cells[end] == 2 || at.cells[end] == 3)) {
                sum += at.cells[end];
                end--;
            }
            if (rules.take == TAKE_STARVE && sum == at.inRow(1 - at.side, rules.perSide)) {
                return 0;
            }
            for (int p = end + 1; p <= last; p++) {
                at.cells[p] = 0;
            }
            at.cells[STORE + at.side] += sum;
            return sum;
        }

        /** The pits (bits) of moves that can be. */
        int choices(Scene at) {
            return rules.feeds || ground.longOnes ? tryAll(at) : at.filled(rules.perSide);
        }

        /** The pits (bits) of moves that can be; all of these are tried. */
        int tryAll(Scene at) {
            int first = at.side * rules.perSide;
            int can = 0;
            int feeding = 0;
            for (int i = 0; i < rules.perSide; i++) {
                if (at.cells[first + i] == 0) {
                    continue;
                }
                after[i].copy(at);
                if (sow(after[i], first + i)) {
                    gains[i] = brought;
                    can |= 1 << first + i;
                    if (after[i].inRow(1 - at.side, rules.perSide) > 0) {
                        feeding |= 1 << first + i;
                    }
                }
            }
            return rules.feeds && feeding != 0 ? feeding : can;
        }

        private boolean isLong(Scene at, int i) {
            after[i].copy(at);
            return !sow(after[i], at.side * rules.perSide + i);
        }

        /** Who must be fed doesn't matter here: where just such moves are left, they can be. */
        boolean isOver(Scene at) {
            int first = at.side * rules.perSide;
            for (int i = 0; i < rules.perSide; i++) {
                if (at.cells[first + i] > 0 && !(ground.longOnes && isLong(at, i))) {
                    return false;
                }
            }
            return true;
        }

        /** Why a move can't be; 0. */
        int reason(Scene at, long p) {
            int can = choices(at);
            if (can == 0) {
                return OVER;
            }
            if (!isOwn(at, p)) {
                return NOT_OWN;
            }
            int pit = (int) p;
            if (at.cells[pit] == 0) {
                return EMPTY;
            }
            if (has(can, pit)) {
                return 0;
            }
            return isLong(at, pit - at.side * rules.perSide) ? LONG : UNFED;
        }

        int scoreOf(Scene at) {
            int score = at.cells[STORE] - at.cells[STORE + 1];
            if (!isOver(at)) {
                return score;
            }
            return score + at.inRow(0, rules.perSide) - at.inRow(1, rules.perSide);
        }
    }

    /** The latest moves, to be undone and done again: a ring of rows, the oldest of which give way. */
    private static final class Past {
        int done;
        int undone;

        private int start;
        private final int[] moves = new int[KEPT_MOVES];
        private final Scene[] before = new Scene[KEPT_MOVES];

        Past() {
            for (int i = 0; i < KEPT_MOVES; i++) {
                before[i] = new Scene();
            }
        }

        void forget() {
            done = 0;
            undone = 0;
        }

        private int slot(int i) {
            int at = start + i;
            return at < KEPT_MOVES ? at : at - KEPT_MOVES;
        }

        int moveAt(int i) {
            return moves[slot(i)];
        }

        void keep(Scene scene, int p) {
            if (done == KEPT_MOVES) {
                start = slot(1);
                done--;
            }
            int at = slot(done);
            moves[at] = p;
            before[at].copy(scene);
            done++;
            undone = 0;
        }

        void back(Scene scene) {
            done--;
            undone++;
            scene.copy(before[slot(done)]);
        }

        /** The move that is to be done again. */
        int again() {
            done++;
            undone--;
            return moves[slot(done - 1)];
        }
    }

    /**
     * Values and ranks of positions, from few seeds to many. Within one number of seeds every move that keeps
     * them in pits hands over to the other side, so values are found by going over all positions again and again.
     */
    private static final class Solver {
        /** Marks positions that are over; their rank is 0. */
        private static final int ENDED = -1;
        private static final int LEAST = -1000;
        private static final int MOST_TURNS = 2 * LEVEL + 1;

        final int[] values = new int[2 * SOLVABLE];

        private final int[] ranks = new int[2 * SOLVABLE];
        private final Rules rules;
        private final Ground ground;
        private final Sower sower;
        private final Scene from = new Scene();
        private int solvedKey;
        private int solvedTo = NONE;
        /** The rank of what comes of the latest move that was weighed. */
        private int rankBehind;

        // Of the positions of one number of seeds: the best by moves that bring seeds, where the other moves lead.
        private final int[] exits = new int[2 * LEVEL];
        private final int[] fresh = new int[2 * LEVEL];
        private final int[] linkCounts = new int[2 * LEVEL];
        private final int[] links = new int[2 * LEVEL * OWN_PITS];

        Solver(Rules rules, Ground ground, Sower sower) {
            this.rules = rules;
            this.ground = ground;
            this.sower = sower;
        }

        /** Solves positions of s seeds; false: there are too many. */
        boolean reach(int s) {
            if (ground.positionsUpTo(s) > SOLVABLE) {
                return false;
            }
            if (solvedTo == NONE || solvedKey != rules.key()) {
                solvedKey = rules.key();
                solvedTo = NONE;
            }
            for (int level = solvedTo + 1; level <= s; level++) {
                int many = ground.positionsOf(level);
                for (int half = 0; half <= halfOf(1); half++) {
                    for (int k = 0; k < many; k++) {
                        readPosition(half, level, k);
                    }
                }
                weighLevel(level);
                solvedTo = level;
            }
            return true;
        }

        /** Sides that see the same positions share one half. */
        private int halfOf(int side) {
            return ground.alike ? 0 : side;
        }

        int indexOf(int side, int s, int k) {
            return halfOf(side) * SOLVABLE + ground.positionsUpTo(s - 1) + k;
        }

        private int indexAt(Scene at, int s) {
            return indexOf(at.side, s, ground.numberOf(at, s));
        }

        /** Behind n turns a value is what comes out within n moves; the turn that changed it last is its rank. */
        private void weighLevel(int level) {
            boolean changed = true;
            for (int turn = 1; changed && turn <= MOST_TURNS; turn++) {
                changed = false;
                for (int half = 0; half <= halfOf(1); half++) {
                    weighAll(half, level);
                }
                for (int half = 0; half <= halfOf(1); half++) {
                    changed |= settleAll(half, level, turn);
                }
            }
        }

        private void readPosition(int half, int level, int k) {
            int slot = half * LEVEL + k;
            int index = indexOf(half, level, k);
            ground.lay(from, half, level, k);
            exits[slot] = LEAST;
            linkCounts[slot] = 0;
            values[index] = 0;
            ranks[index] = 0;
            int can = sower.tryAll(from) >>> half * rules.perSide;
            if (can == 0) {
                values[index] = from.inRow(half, rules.perSide) - from.inRow(1 - half, rules.perSide);
                ranks[index] = ENDED;
            }
            for (int i = 0; i < rules.perSide; i++) {
                if (has(can, i)) {
                    readMove(slot, level, i);
                }
            }
        }

        private void readMove(int slot, int level, int i) {
            int gain = sower.gains[i];
            int index = indexAt(sower.after[i], level - gain);
            if (gain > 0) {
                int value = sower.after[i].side == from.side ? values[index] : -values[index];
                exits[slot] = Math.max(exits[slot], gain + value);
            } else {
                links[slot * OWN_PITS + linkCounts[slot]] = index;
                linkCounts[slot]++;
            }
        }

        /** All are weighed by the values of the turn before, none of which may change meanwhile. */
        private void weighAll(int half, int level) {
            int end = half * LEVEL + ground.positionsOf(level);
            for (int slot = half * LEVEL; slot < end; slot++) {
                int most = exits[slot];
                int first = slot * OWN_PITS;
                for (int i = first + linkCounts[slot] - 1; i >= first; i--) {
                    int value = -values[links[i]];
                    if (value > most) {
                        most = value;
                    }
                }
                fresh[slot] = most;
            }
        }

        private boolean settleAll(int half, int level, int turn) {
            int many = ground.positionsOf(level);
            int index = indexOf(half, level, 0);
            boolean changed = false;
            for (int k = 0; k < many; k++) {
                int value = fresh[half * LEVEL + k];
                if (ranks[index + k] != ENDED && values[index + k] != value) {
                    values[index + k] = value;
                    ranks[index + k] = turn;
                    changed = true;
                }
            }
            return changed;
        }

        int valueAt(Scene at) {
            return values[indexAt(at, at.inPits())];
        }

        int rankAt(Scene at) {
            return rankOf(indexAt(at, at.inPits()));
        }

        private int rankOf(int index) {
            return Math.max(0, ranks[index]);
        }

        /** One number for a position and who is to move. */
        int markOf(Scene at) {
            int s = at.inPits();
            return 2 * (ground.positionsUpTo(s - 1) + ground.numberOf(at, s)) + at.side;
        }

        /** Kinds as tally() has them. */
        boolean isOfKind(int index, int what) {
            switch (what) {
                case 0:
                    return values[index] > 0;
                case 1:
                    return values[index] == 0;
                case 2:
                    return values[index] < 0;
                default:
                    return ranks[index] == ENDED;
            }
        }

        /** What most() looks for the greatest of: values, values the other way round, ranks. */
        int measure(int index, int which) {
            switch (which) {
                case 0:
                    return values[index];
                case 1:
                    return -values[index];
                default:
                    return rankOf(index);
            }
        }

        /** The worth of the i-th own move of a scene whose moves were tried latest. */
        private int worthOfTried(Scene at, int i) {
            Scene next = sower.after[i];
            int index = indexAt(next, next.inPits());
            rankBehind = sower.gains[i] > 0 ? 0 : rankOf(index);
            return sower.gains[i] + (next.side == at.side ? values[index] : -values[index]);
        }

        /** The worth of a move; SPENT: it can't be. */
        int worthBy(Scene at, int p) {
            return has(sower.tryAll(at), p) ? worthOfTried(at, p - at.side * rules.perSide) : SPENT;
        }

        int bestAt(Scene at) {
            int value = valueAt(at);
            int first = at.side * rules.perSide;
            int can = sower.tryAll(at) >>> first;
            int found = NONE;
            int least = 0;
            for (int i = 0; i < rules.perSide; i++) {
                if (has(can, i) && worthOfTried(at, i) == value && (found == NONE || rankBehind < least)) {
                    found = first + i;
                    least = rankBehind;
                }
            }
            return found;
        }

        int manyBest(Scene at) {
            int value = valueAt(at);
            int can = sower.tryAll(at) >>> at.side * rules.perSide;
            int many = 0;
            for (int i = 0; i < rules.perSide; i++) {
                if (has(can, i) && worthOfTried(at, i) == value) {
                    many++;
                }
            }
            return many;
        }
    }

    /** Goes one way on from a scene: by best moves, by draws, or where just one move can be. */
    private static final class Walker {
        final Scene at = new Scene();
        final int[] steps = new int[PLAY_MOVES];
        int many;
        /** Whether a position came again. */
        boolean ring;

        private final Sower sower;
        private final Solver solver;
        private final int[] marks = new int[LINE_MOVES + 1];

        Walker(Sower sower, Solver solver) {
            this.sower = sower;
            this.solver = solver;
        }

        private void begin(Scene from) {
            at.copy(from);
            many = 0;
            ring = false;
        }

        private void go(int p) {
            sower.sow(at, p);
            steps[many] = p;
            many++;
        }

        void goByBest(Scene from) {
            begin(from);
            marks[0] = solver.markOf(at);
            for (int i = 0; i < LINE_MOVES && !ring; i++) {
                int p = solver.bestAt(at);
                if (p == NONE) {
                    return;
                }
                go(p);
                marks[many] = solver.markOf(at);
                ring = isMarkedAgain();
            }
        }

        private boolean isMarkedAgain() {
            for (int i = 0; i < many; i++) {
                if (marks[i] == marks[many]) {
                    return true;
                }
            }
            return false;
        }

        void goWhileForced(Scene from) {
            begin(from);
            for (int i = 0; i < LINE_MOVES; i++) {
                int can = sower.choices(at);
                if (Integer.bitCount(can) != 1) {
                    return;
                }
                go(pick(can, 0));
            }
        }

        void goByDraws(Scene from, int seed, boolean bestForOne) {
            begin(from);
            int x = seed;
            for (int i = 0; i < PLAY_MOVES; i++) {
                int p;
                if (bestForOne && at.side == 1) {
                    p = solver.bestAt(at);
                } else {
                    x = 1103515245 * x + 12345;
                    p = pick(sower.choices(at), x >>> 16);
                }
                if (p == NONE) {
                    return;
                }
                go(p);
            }
        }

        /** The pit of these that a draw falls on; NONE: there are none. */
        private static int pick(int can, int draw) {
            int many = Integer.bitCount(can);
            int left = many == 0 ? 0 : draw % many;
            for (int p = 0; p < PITS; p++) {
                if (has(can, p)) {
                    if (left == 0) {
                        return p;
                    }
                    left--;
                }
            }
            return NONE;
        }
    }

    /** Goes all ways on from a scene, a few moves deep. */
    private static final class Explorer {
        /** Six ways to move, four times. */
        private static final int LEAVES = 1296;
        /** A power of two, as many as the twelve highest bits of a hash can tell. */
        private static final int SLOTS = 4096;

        /** The moves that the latest search for an end found. */
        final int[] path = new int[SOONEST_MOVES];

        private final Rules rules;
        private final Sower sower;
        private final Scene[] depths = new Scene[SOONEST_MOVES + 1];
        private final Scene sought = new Scene();
        private int soughtKey;
        private int soughtMany;
        private boolean soughtOnce;

        // Unlike scenes, each told by two numbers, and where these lie by their hash (0: nowhere).
        private final long[] leavesA = new long[LEAVES];
        private final long[] leavesB = new long[LEAVES];
        private final int[] slots = new int[SLOTS];
        private int leaves;

        Explorer(Rules rules, Sower sower) {
            this.rules = rules;
            this.sower = sower;
            for (int i = 0; i <= SOONEST_MOVES; i++) {
                depths[i] = new Scene();
            }
        }

        private void goDown(int depth, int p) {
            depths[depth + 1].copy(depths[depth]);
            sower.sow(depths[depth + 1], p);
        }

        int countFrom(Scene from, int moves) {
            depths[0].copy(from);
            return countRows(0, moves);
        }

        private int countRows(int depth, int moves) {
            if (depth >= moves || depth >= SOONEST_MOVES) {
                return 1;
            }
            int can = sower.choices(depths[depth]);
            if (depth == moves - 1) {
                return Integer.bitCount(can);
            }
            int sum = 0;
            for (int p = 0; p < PITS; p++) {
                if (has(can, p)) {
                    goDown(depth, p);
                    sum += countRows(depth + 1, moves);
                }
            }
            return sum;
        }

        int countUnlike(Scene from, int moves) {
            depths[0].copy(from);
            leaves = 0;
            for (int i = 0; i < SLOTS; i++) {
                slots[i] = 0;
            }
            gather(0, moves);
            return leaves;
        }

        private void gather(int depth, int moves) {
            if (depth >= moves || depth >= SOONEST_MOVES) {
                note(depths[depth]);
                return;
            }
            int can = sower.choices(depths[depth]);
            for (int p = 0; p < PITS; p++) {
                if (has(can, p)) {
                    goDown(depth, p);
                    gather(depth + 1, moves);
                }
            }
        }

        private void note(Scene at) {
            long a = packed(at.cells, 0, 7);
            long b = packed(at.cells, 7, CELLS) * 2 + at.side;
            long mixed = (a * 31 + b) * 0x9E3779B97F4A7C15L;
            int slot = (int) (mixed >>> 52);
            for (int tries = 0; tries < SLOTS && leaves < LEAVES; tries++) {
                int entry = slots[slot];
                if (entry == 0) {
                    leavesA[leaves] = a;
                    leavesB[leaves] = b;
                    leaves++;
                    slots[slot] = leaves;
                    return;
                }
                if (leavesA[entry - 1] == a && leavesB[entry - 1] == b) {
                    return;
                }
                slot = slot + 1 & SLOTS - 1;
            }
        }

        /** Eight bits a cell: no cell ever holds more than 139. */
        private static long packed(int[] cells, int first, int end) {
            long bits = 0;
            for (int i = first; i < end; i++) {
                bits = bits << 8 | cells[i];
            }
            return bits;
        }

        /** How many moves at least until it is over, with the path to there; NONE. */
        int seekEnd(Scene from) {
            if (soughtOnce && soughtKey == rules.key() && sought.isLike(from)) {
                return soughtMany;
            }
            soughtOnce = true;
            soughtKey = rules.key();
            sought.copy(from);
            depths[0].copy(from);
            soughtMany = NONE;
            for (int moves = 0; moves <= SOONEST_MOVES && soughtMany == NONE; moves++) {
                if (endsWithin(0, moves)) {
                    soughtMany = moves;
                }
            }
            return soughtMany;
        }

        private boolean endsWithin(int depth, int moves) {
            if (depth >= moves || depth >= SOONEST_MOVES) {
                return sower.isOver(depths[depth]);
            }
            int can = sower.choices(depths[depth]);
            for (int p = 0; p < PITS; p++) {
                if (has(can, p)) {
                    path[depth] = p;
                    goDown(depth, p);
                    if (endsWithin(depth + 1, moves)) {
                        return true;
                    }
                }
            }
            return false;
        }
    }

    /** A row of numbers of one sort. */
    private static final class Tray {
        final long[] numbers = new long[PLACES];
        int sort = NONE;
        int many;

        void lay(int newSort, int newMany) {
            sort = newSort;
            many = newMany;
            for (int i = 0; i < PLACES; i++) {
                numbers[i] = 0;
            }
        }

        long cut(long v) {
            switch (sort) {
                case 0:
                    return (byte) v;
                case 1:
                    return (short) v;
                case 2:
                    return (int) v;
                default:
                    return v;
            }
        }
    }

    /** A board as it was. */
    private static final class Image {
        boolean made;
        final Rules rules = new Rules();
        final Scene scene = new Scene();
    }
}
