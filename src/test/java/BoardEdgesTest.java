/** The edges that promises 1 to 7 name: a new object, the tape, the board's text and its faults, what a board shows. */
public final class BoardEdgesTest {
    /** Bounds of the numbers in a line: the words ahead of the number, its bounds, the words behind it. */
    private record Bounds(String head, int least, int greatest, String tail) {
    }

    private static void dueFault(String text, int kind, int place) {
        SowingHouse x = Due.house("pits 2;lay 1 1;");
        Due.due("board of '" + text + "'", Due.read(x, text), kind == 0 ? x.count(0) : -10 - kind);
        Due.due("fault(0) of '" + text + "'", x.fault(0), kind);
        Due.due("fault(1) of '" + text + "'", x.fault(1), place);
    }

    private static void dueBounds(Bounds b) {
        int place = b.head.length();
        dueFault(b.head + b.least + b.tail, 0, -1);
        dueFault(b.head + b.greatest + b.tail, 0, -1);
        dueFault(b.head + (b.greatest + 1) + b.tail, 3, place);
        dueFault(b.head + 999 + b.tail, 3, place);
        if (b.least > 0) {
            dueFault(b.head + (b.least - 1) + b.tail, 3, place);
        }
    }

    private static String zeros(int many) {
        return "0 ".repeat(many);
    }

    // ---- promise 1

    private static void aNewObject() {
        Due.says(1, "A BOARD without a text; nothing to be undone; TRAYS are MISSING; an empty tape.");
        SowingHouse x = new SowingHouse();
        int[] counts = {0, 3, 0, 0, 0, 0, 0};
        for (int i = 0; i < counts.length; i++) {
            Due.due("count(" + i + ")", x.count(i), counts[i]);
        }
        Due.dueOnly("undo()", x, y -> y.undo() ? 1 : 0, 0);
        Due.dueOnly("redo()", x, y -> y.redo() ? 1 : 0, 0);
        for (int i = 0; i < 4; i++) {
            int tray = i;
            Due.refused(Due.STATE, "judge of tray " + i, new SowingHouse(), y -> y.judge(tray, 0));
            Due.refused(Due.STATE, "perform of tray " + i, new SowingHouse(), y -> y.perform(tray));
            Due.refused(Due.STATE, "write to tray " + i, new SowingHouse(), y -> y.write(tray, 0, 0));
            Due.refused(Due.STATE, "pour into tray " + i, new SowingHouse(), y -> y.pour(tray));
        }
        Due.refused(Due.ARGUMENT, "board(1)", new SowingHouse(), y -> y.board(1));
        Due.due("board(0)", x.board(0), 0);

        Due.says(1, "(without one: 3 pits a side, no seeds, no rules)");
        SowingHouse z = new SowingHouse();
        Due.duePits("new", z, 0, 0, 0, 0, 0, 0);
        Due.due("stores", z.store(0) * 100 + z.store(1), 0);
        Due.due("mover", z.mover(), 0);
        Due.due("over", z.over(), true);
        Due.due("score", z.score(), 0);
        Due.due("a seed from the last pit goes to the other side, no store is sown", z.row(0, 1, 2, 12), -1);
        Due.due("it may be played away from who has it alone", z.row(0, 1, 0, 10), 1);
        SowingHouse none = Due.house("take none;");
        for (int s = 0; s <= 5; s++) {
            for (int what = 0; what < 4; what++) {
                Due.due("tally of " + s, z.tally(1, s, what), none.tally(1, s, what));
            }
        }

        Due.says(1, "IMAGES 0 to 2: all but the tape, the FAULT and TRAYS, as it was (none at first).");
        for (int i = 0; i < 3; i++) {
            int image = i;
            Due.refused(Due.STATE, "restore(" + i + ")", new SowingHouse(), y -> y.restore(image));
        }
    }

    // ---- promise 2

    private static void theTape() {
        Due.says(2, "Twenty bytes come behind those on the tape, the highest of each int first");
        for (int sign : new int[] {'#', 1, 127, 128, 255}) {
            for (int place = 0; place < 40; place++) {
                int[] ten = new int[10];
                for (int i = 0; i < 40; i++) {
                    ten[i / 4] = ten[i / 4] << 8 | (i == place ? sign : ' ');
                }
                SowingHouse x = new SowingHouse();
                x.feed(ten[0], ten[1], ten[2], ten[3], ten[4]);
                x.feed(ten[5], ten[6], ten[7], ten[8], ten[9]);
                Due.due("a sign " + sign + " among blanks", x.board(40), -11);
                Due.due("its place", x.fault(1), place);
            }
        }

        Due.says(2, "how many it has");
        SowingHouse full = new SowingHouse();
        for (int i = 1; i <= 25; i++) {
            Due.due("feed " + i, Due.tape(full, "skip;skip;skip;skip;"), 20 * i);
            Due.due("tape " + i, full.count(6), 20 * i);
        }

        Due.says(2, "NONE, and nothing changes, if there would be more than 500.");
        Due.dueOnly("feed beyond 500", full, x -> x.feed(0, -1, 0x23232323, Integer.MIN_VALUE, Integer.MAX_VALUE), -1);
        Due.dueOnly("once more", full, x -> x.feed(0, 0, 0, 0, 0), -1);
        Due.due("the 500 bytes are as they were", full.board(500), 100);
        Due.due("then it has room again", full.feed(0, 0, 0, 0, 0), 20);
    }

    // ---- promise 3

    private static void howManyBytes() {
        Due.says(3, "The first n bytes of the tape (which is empty then) are the BOARD");
        String text = "pits 2;lay 1 2 3 4;skip;";
        int[][] cuts = {{0, 0, 3}, {7, 1, 2}, {19, 2, 2}, {24, 3, 2}, {40, 3, 2}};
        for (int[] cut : cuts) {
            SowingHouse x = new SowingHouse();
            Due.due("tape", Due.tape(x, text), 40);
            Due.due("board(" + cut[0] + ")", x.board(cut[0]), cut[1]);
            Due.due("pits of board(" + cut[0] + ")", x.count(1), cut[2]);
            Due.due("seeds of board(" + cut[0] + ")", x.count(2), cut[1] < 2 ? 0 : 10);
            Due.due("tape behind board(" + cut[0] + ")", x.count(6), 0);
            Due.refused(Due.ARGUMENT, "board(1) then", x, y -> y.board(1));
        }
        SowingHouse cutOff = new SowingHouse();
        Due.tape(cutOff, text);
        Due.due("a text cut in a word", cutOff.board(22), -12);
        Due.due("its word", cutOff.fault(1), 19);
        Due.due("the tape is empty behind a fault, too", cutOff.count(6), 0);
        SowingHouse cutNumber = new SowingHouse();
        Due.tape(cutNumber, "lay 1 21;");
        Due.due("a text cut in a number", cutNumber.board(7), -12);
        Due.due("its end", cutNumber.fault(1), 7);
        Due.tape(cutNumber, "lay 1 2;#");
        Due.due("a text cut ahead of a fault", cutNumber.board(8), 1);

        Due.says(3, "A BOARD is a TEXT of at most 500 bytes");
        SowingHouse long500 = new SowingHouse();
        Due.tape(long500, "pits 1;" + "\n".repeat(487) + "skip; ");
        Due.due("500 bytes", long500.board(500), 2);
        SowingHouse open500 = new SowingHouse();
        Due.tape(open500, " ".repeat(496) + "skip");
        Due.due("500 bytes, the last sign is lacking", open500.board(500), -12);
        Due.due("the end is at 500", open500.fault(1), 500);
        SowingHouse number500 = new SowingHouse();
        Due.tape(number500, " ".repeat(495) + "lay 1");
        Due.due("500 bytes, a number is the last", number500.board(500), -12);
        Due.due("the end is at 500", number500.fault(1), 500);

        Due.says(3, "IllegalArgumentException: n is below 0 or above what it has.");
        for (int n : new int[] {-1, 21, Integer.MIN_VALUE, Integer.MAX_VALUE}) {
            Due.refused(Due.ARGUMENT, "board(" + n + ") of 20", "pits 2;lay 1;", x -> x.board(n));
        }
        SowingHouse full = new SowingHouse();
        Due.tape(full, " ".repeat(500));
        Due.refused(Due.ARGUMENT, "board(501) of 500", full, x -> x.board(501));
        Due.due("board(500) of 500", full.board(500), 0);
        Due.refused(Due.ARGUMENT, "board(-1) of none", new SowingHouse(), x -> x.board(-1));
    }

    private static void whatABoardAnswers() {
        Due.says(3, "how many LINES");
        String[] texts = {"", " ", "\n \n", "skip;", "skip;skip;", "pits 6;lay 1;", "lay 0 0 0 0 0 0;"};
        int[] lines = {0, 0, 0, 1, 2, 2, 1};
        for (int i = 0; i < texts.length; i++) {
            Due.due("board of '" + texts[i] + "'", Due.read(new SowingHouse(), texts[i]), lines[i]);
        }
        Due.due("a hundred", Due.read(new SowingHouse(), "skip;".repeat(100)), 100);

        Due.says(3, "are the BOARD");
        String all = "pits 2;lay 1 2;lacking 3;stored 5 6;stores;skip;again;feed;relay 1;take grand starve;first 1;";
        for (String faulty : new String[] {"", "stores;skip;again;feed;relay 1;take opposite;lacking 0;first 1;lay 7;stored 9 9;#"}) {
            SowingHouse x = Due.house(all);
            Due.read(x, faulty);
            Due.read(x, "pits 2;lay 2 5 1 1;");
            Due.due("lines, nothing is lacking", x.count(0) * 10 + x.count(3), 20);
            Due.due("nothing is stored", x.store(0) + x.store(1), 0);
            Due.due("side 0 is first", x.mover(), 0);
            Due.due("no store is sown, no pit is passed by", x.sown(1, 0), 2);
            Due.due("nothing is taken", x.sown(1, 2), 0);
            Due.due("no rounds", x.sown(1, 1), 0);
            Due.read(x, "pits 2;lay 1 1;");
            Due.due("nobody must be fed", x.may(0), 0);
            Due.read(x, "pits 2;lay 0 1;stores;");
            x.move(1);
            Due.due("nobody moves again", x.mover(), 1);
            Due.read(x, "");
            Due.duePits("a board without a text", x, 0, 0, 0, 0, 0, 0);
        }

        Due.says(3, "nothing can be undone then");
        for (String text : new String[] {"", "pits 2;lay 1 1 1 1;"}) {
            SowingHouse x = movedHouse();
            Due.read(x, text);
            Due.due("to be undone", x.count(4), 0);
            Due.due("to be done again", x.count(5), 0);
            Due.dueOnly("undo", x, y -> y.undo() ? 1 : 0, 0);
            Due.dueOnly("redo", x, y -> y.redo() ? 1 : 0, 0);
        }

        Due.says(3, "-10 less the FAULT (all stays)");
        String[] faulty = {"pits 1;#", "pits 1;lay 1", "pits 1;lay 21;", "pits 1;lay 1 1 1;", "pits 1;lay 1;lacking 0;"};
        for (int kind = 1; kind <= 5; kind++) {
            SowingHouse x = movedHouse();
            Due.lay(x, 1, 0, 2, 1);
            x.image(1);
            String before = Due.board(x);
            Due.due("board of '" + faulty[kind - 1] + "'", Due.read(x, faulty[kind - 1]), -10 - kind);
            Due.due("the board stays behind fault " + kind, Due.board(x).equals(before), true);
            Due.due("the tray stays behind fault " + kind, x.judge(1, 0), -1);
            Due.due("redo behind fault " + kind, x.redo(), true);
            Due.due("undo behind fault " + kind, x.undo() && x.undo(), true);
            x.restore(1);
            Due.due("the image stays behind fault " + kind, x.pit(1), 2);
        }
    }

    /** Two moves made, one of them undone; 0 2 1 1, and SIDE 1 is to move. */
    private static SowingHouse movedHouse() {
        SowingHouse x = Due.house("pits 2;lay 1 1 1 1;first 0;");
        x.move(0);
        x.move(2);
        x.undo();
        return x;
    }

    // ---- promise 3, the text

    private static void boundsOfLines() {
        Due.says(3, "pits: 1 to 6 a SIDE.");
        dueBounds(new Bounds("pits ", 1, 6, ";"));
        for (int n = 1; n <= 6; n++) {
            Due.due("pits " + n, Due.house("pits " + n + ";").count(1), n);
        }

        Due.says(3, "lay: seeds (0 to 20 each) of PITS 0, 1 .. as many as are told");
        dueBounds(new Bounds("lay ", 0, 20, ";"));
        dueBounds(new Bounds("lay 0 0 0 0 0 ", 0, 20, ";"));
        Due.duePits("lay 20", Due.house("pits 2;lay 0 20;"), 0, 20, 0, 0);

        Due.says(3, "(others: 0; at most twice pits, what is told last strikes)");
        for (int n = 1; n <= 6; n++) {
            String head = "pits " + n + ";lay " + zeros(2 * n);
            dueFault(head + ";", 0, -1);
            dueFault(head + "0;", 4, head.length());
        }
        dueFault("lay " + zeros(6) + ";", 0, -1);
        dueFault("lay " + zeros(6) + "0;", 4, 16);
        Due.duePits("told last", Due.house("pits 2;lay 1 2 3;lay 4 0;"), 4, 0, 3, 0);
        Due.duePits("told once", Due.house("pits 2;lay 5;"), 5, 0, 0, 0);
        Due.duePits("not told", Due.house("pits 2;"), 0, 0, 0, 0);

        Due.says(3, "stored: what lies in STORES 0 and 1 (0 to 99).");
        dueBounds(new Bounds("stored ", 0, 99, " 5;"));
        dueBounds(new Bounds("stored 5 ", 0, 99, ";"));

        Due.says(3, "lacking: a PIT (more of them, one by one).");
        for (int n = 1; n <= 6; n++) {
            dueBounds(new Bounds("pits " + n + ";lacking ", 0, 2 * n - 1, ";"));
        }
        dueBounds(new Bounds("lacking ", 0, 5, ";"));
        dueFault("lacking 0 1;", 2, 10);
        Due.due("all of them", Due.house("pits 1;lacking 1;lacking 0;").count(3), 2);
        Due.due("one of them twice", Due.house("pits 1;lacking 1;lacking 1;").count(3), 1);
        Due.due("none", Due.house("pits 1;").count(3), 0);

        Due.says(3, "first: the SIDE that moves first, 0 or 1.");
        dueBounds(new Bounds("first ", 0, 1, ";"));
        Due.due("first 0", Due.house("first 0;").mover(), 0);
        Due.due("first 1", Due.house("first 1;").mover(), 1);
        Due.due("not told", Due.house("skip;").mover(), 0);

        Due.says(3, "relay: at most 1 to 20 ROUNDS.");
        dueBounds(new Bounds("relay ", 1, 20, ";"));

        Due.says(3, "Later ones strike; pits stands ahead of all others, if it is told.");
        SowingHouse x = Due.house("stored 1 2;stored 0 4;first 1;first 0;");
        Due.due("stored", x.store(0) * 100 + x.store(1), 4);
        Due.due("first", x.mover(), 0);
        Due.due("relay 2, then 1", Due.house("pits 2;lay 1 2 2 2;relay 2;relay 1;").may(1), 3);
        Due.due("relay 1, then 2", Due.house("pits 2;lay 1 2 2 2;relay 1;relay 2;").may(1), 0);
        Due.due("grand, then none", Due.house("pits 2;lay 0 1 1 2;take grand;take none;").sown(1, 2), 0);
        Due.due("none, then grand", Due.house("pits 2;lay 0 1 1 2;take none;take grand;").sown(1, 2), 2);
        Due.due("starve, then grand", Due.house("pits 2;lay 0 2 1 1;take grand starve;take grand;").sown(1, 2), 4);
        Due.due("opposite, then grand", Due.house("pits 2;lay 1 0 3;take opposite;take grand;").sown(0, 2), 0);
        dueFault("pits 3;pits 3;", 2, 7);
        dueFault("skip;pits 3;", 2, 5);
    }

    private static void tokens() {
        Due.says(3, "TOKENS, as long as they go, between them blanks (10, 32): words (small letters), N (1 to 3 digits), the sign ;.");
        dueFault("pits2;lay1 2 3;skip;", 0, -1);
        dueFault("  pits\n2\n;\n lay 1\n\n2 ;skip;\n", 0, -1);
        dueFault("pits 002;lay 020 0 00 000;", 0, -1);
        Due.duePits("leading zeros", Due.house("pits 002;lay 020 0 00 003;"), 20, 0, 0, 3);
        dueFault("lay 1 2;stored99 99;lacking5;", 0, -1);
        for (String line : new String[] {"pits 1", "lay 1", "stored 1 1", "lacking 1", "first 1", "stores", "skip", "relay 1",
            "take none", "take opposite", "take grand", "take grand starve", "again", "feed"}) {
            dueFault(line + ";", 0, -1);
            for (int i = 0; i < line.length(); i++) {
                if (Character.isLetter(line.charAt(i))) {
                    String other = line.substring(0, i) + (line.charAt(i) == 'q' ? 'p' : 'q') + line.substring(i + 1);
                    dueFault(other + ";", 2, line.lastIndexOf(' ', i) + 1);
                }
            }
        }
        dueFault("takegrand;", 2, 0);
        dueFault("take grandstarve;", 2, 5);
        dueFault("pi ts 2;", 2, 0);
        dueFault("stored 9 9 9;", 2, 11);
        for (char sign = 0; sign < 256; sign++) {
            boolean blank = sign == 10 || sign == 32;
            boolean token = sign == ';' || sign >= '0' && sign <= '9' || sign >= 'a' && sign <= 'z';
            dueFault("skip;" + sign, blank ? 0 : token ? 2 : 1, blank ? -1 : 5);
        }
    }

    // ---- promise 4

    private static void faultCall() {
        Due.says(4, "Of the latest board() that threw nothing, what 0: the FAULT (0 without, and at first), 1: its place (NONE without).");
        SowingHouse x = new SowingHouse();
        Due.due("fault(0) at first", x.fault(0), 0);
        Due.due("fault(1) at first", x.fault(1), -1);
        Due.refused(Due.ARGUMENT, "board(1)", x, y -> y.board(1));
        Due.read(x, "pits 9;");
        Due.refused(Due.ARGUMENT, "board(-1)", x, y -> y.board(-1));
        Due.due("fault(0) behind a throw", x.fault(0), 3);
        Due.due("fault(1) behind a throw", x.fault(1), 5);
        Due.read(x, "#");
        Due.due("the latest fault(0)", x.fault(0), 1);
        Due.due("the latest fault(1), at the text's beginning", x.fault(1), 0);
        x.board(0);
        Due.due("fault(0) without", x.fault(0), 0);
        Due.due("fault(1) without", x.fault(1), -1);

        Due.says(4, "NONE for others.");
        SowingHouse y = Due.busyHouse("pits 2;");
        Due.due("fault(-1)", y.fault(-1), -1);
        Due.due("fault(2)", y.fault(2), -1);
        for (int what : Due.FAR) {
            Due.due("fault(" + what + ")", y.fault(what), -1);
        }
    }

    private static void kindsOfFaults() {
        Due.says(4, "FAULTS, the first along the text, of one TOKEN the least kind");
        dueFault("lay 21 #", 3, 4);
        dueFault("lay # 21", 1, 4);
        dueFault("pits 1;lay 0 0 21;", 3, 15);
        dueFault("pits 1;lay 0 0 1000;", 1, 15);
        dueFault("pits 1;lay 0 0 0 21 #;", 4, 15);
        dueFault("skip;pits 9;", 2, 5);
        dueFault("first 1 2;", 2, 8);
        dueFault("first 1 2000;", 1, 8);
        dueFault("lay 1;lacking 0;x", 2, 16);
        dueFault("lay 20 20 20;#", 1, 13);

        Due.says(4, "1 no TOKEN begins so (4 digits and more: at their first).");
        dueFault("lay 0000;", 1, 4);
        dueFault("lay 1 12345678;", 1, 6);
        dueFault("lay 999999999999;", 1, 4);
        dueFault("1234", 1, 0);
        dueFault("pits 2;-1;", 1, 7);
        dueFault("pits 2;lay 1,1;", 1, 12);
        dueFault("Skip;", 1, 0);
        dueFault("skiP;", 2, 0);
        dueFault("take nonE;", 2, 5);

        Due.says(4, "2 it can't stand there (the end: the text's length; pits behind another LINE).");
        String[] open = {"pits", "pits 2", "lay", "lay 1", "stored", "stored 1", "stored 1 1", "lacking", "lacking 1", "first",
            "first 1", "stores", "skip", "relay", "relay 1", "take", "take none", "take grand", "take grand starve", "again", "feed"};
        for (String text : open) {
            dueFault(text, 2, text.length());
            dueFault("\n" + text + "  \n", 2, text.length() + 4);
            dueFault("skip;" + text + "x;", 2, text.startsWith("pits") ? 5 : 5 + placeOfX(text));
        }
        dueFault(";", 2, 0);
        dueFault("skip;;", 2, 5);
        dueFault("7;", 2, 0);
        dueFault("stores 1;", 2, 7);
        dueFault("take;", 2, 4);
        dueFault("take 1;", 2, 5);
        dueFault("take starve;", 2, 5);
        dueFault("take none starve;", 2, 10);
        dueFault("lay skip;", 2, 4);
        dueFault("lay;", 2, 3);
        dueFault("skip pits 2;", 2, 5);
        dueFault("lay 1;pits 2;", 2, 6);

        Due.says(4, "3 N is out of its bounds. 4 the first N of a lay that has no PIT.");
        dueFault("pits 0;", 3, 5);
        dueFault("pits 000;", 3, 5);
        dueFault("pits 7;", 3, 5);
        dueFault("pits 1;lacking 2;", 3, 15);
        dueFault("pits 1;lay 20 20 20;", 4, 17);
        dueFault("pits 1;lay 20 20 20 20;", 4, 17);

        Due.says(4, "Without these: 5, at the text's length: a LACKING PIT has seeds, or there are more than 40 in all PITS.");
        dueFault("lay 20 20;", 0, -1);
        dueFault("lay 20 20 1;", 5, 12);
        dueFault("lay 20 20 1;\n ", 5, 14);
        dueFault("pits 6;lay 3 3 3 3 3 3 3 3 3 3 3 7;", 0, -1);
        dueFault("pits 6;lay 3 3 3 3 3 3 3 3 3 3 3 8;", 5, 35);
        dueFault("stored 99 99;lay 20 20;", 0, -1);
        dueFault("lay 20 20 20;lay 0;", 0, -1);
        dueFault("lay 0 1;lacking 1;", 5, 18);
        dueFault("lacking 1;lay 0 1;", 5, 18);
        dueFault("lacking 1;lay 1 0 1;", 0, -1);
        dueFault("lacking 1;lay 0 1;lay 0 0;", 0, -1);
        dueFault("pits 6;lacking 11;lay 0 0 0 0 0 0 0 0 0 0 0 1;", 5, 46);
        dueFault("pits 6;lacking 11;lay 0 0 0 0 0 0 0 0 0 0 1 0;", 0, -1);
    }

    /** Where the word or the number begins that a letter makes another word, or that a word stands behind. */
    private static int placeOfX(String text) {
        boolean word = Character.isLetter(text.charAt(text.length() - 1));
        boolean starve = text.endsWith("starve");
        return starve ? 11 : word ? text.lastIndexOf(' ') + 1 : text.length();
    }

    // ---- promises 5 to 7

    private static void whatABoardShows() {
        Due.says(5, "Seeds in a PIT; NONE: it is LACKING.");
        Due.duePits("0 and 20", Due.house("pits 2;lay 0 20;lacking 3;"), 0, 20, 0, -1);
        Due.duePits("all lack", Due.house("pits 1;lacking 0;lacking 1;"), -1, -1);

        Due.says(5, "NoSuchElementException: no such PIT.");
        for (int n = 1; n <= 6; n++) {
            int end = 2 * n;
            Due.due("the last of " + end, Due.house("pits " + n + ";").pit(end - 1), 0);
            Due.refused(Due.NO_ELEMENT, "pit(" + end + ")", "pits " + n + ";", x -> x.pit(end));
        }
        Due.refused(Due.NO_ELEMENT, "pit(-1)", "pits 6;", x -> x.pit(-1));
        for (int p : Due.FAR) {
            Due.refused(Due.NO_ELEMENT, "pit(" + p + ")", "pits 6;", x -> x.pit(p));
        }

        Due.says(6, "Seeds in a STORE.");
        SowingHouse full = Due.house("pits 1;lay 20 20;stored 99 0;stores;again;take opposite;");
        Due.due("99", full.store(0), 99);
        Due.due("0", full.store(1), 0);
        Due.due("a round of 20 seeds", full.move(0), 7);
        Due.due("more than 99", full.store(0), 106);

        Due.says(6, "NoSuchElementException: no such SIDE.");
        Due.refused(Due.NO_ELEMENT, "store(-1)", "pits 2;", x -> x.store(-1));
        Due.refused(Due.NO_ELEMENT, "store(2)", "pits 2;", x -> x.store(2));
        for (int side : Due.FAR) {
            Due.refused(Due.NO_ELEMENT, "store(" + side + ")", "pits 2;", x -> x.store(side));
        }

        Due.says(7, "Who is to move.");
        SowingHouse x = Due.house("pits 2;lay 0 1 1;first 0;stores;again;");
        Due.due("first 0", x.mover(), 0);
        x.move(1);
        Due.due("again, though nothing is left to move", x.mover(), 0);
        Due.due("a move that can't be", x.move(0), -5);
        Due.due("is no move", x.mover(), 0);
        x.undo();
        SowingHouse y = Due.house("pits 2;lay 0 1 1;first 1;");
        Due.due("first 1", y.mover(), 1);
        y.move(2);
        Due.due("the other one", y.mover(), 0);
        y.undo();
        Due.due("undone", y.mover(), 1);
        y.redo();
        Due.due("done again", y.mover(), 0);
    }

    public static void main(String[] args) {
        aNewObject();
        theTape();
        howManyBytes();
        whatABoardAnswers();
        boundsOfLines();
        tokens();
        faultCall();
        kindsOfFaults();
        whatABoardShows();
        Due.end(1, 7);
    }
}
