import java.util.NoSuchElementException;

/** For each promise of the document some calls with the answers that are due, worked out by hand. */
public final class PromiseTest {
    private static int checks = 0;
    private static int wrong = 0;

    private interface Call {
        void run();
    }

    private static void due(String call, long got, long want) {
        checks++;
        if (got != want) {
            wrong++;
            System.out.println(call + " answered " + got + ", due is " + want);
        }
    }

    private static void due(String call, boolean got, boolean want) {
        due(call, got ? 1 : 0, want ? 1 : 0);
    }

    private static void dueThrow(String call, Class<?> want, Call it) {
        checks++;
        try {
            it.run();
        } catch (RuntimeException e) {
            if (e.getClass() == want) {
                return;
            }
            wrong++;
            System.out.println(call + " threw " + e.getClass().getName() + ", due is " + want.getName());
            return;
        }
        wrong++;
        System.out.println(call + " threw nothing, due is " + want.getName());
    }

    private static final Class<?> NO_ELEMENT = NoSuchElementException.class;
    private static final Class<?> STATE = IllegalStateException.class;
    private static final Class<?> ARGUMENT = IllegalArgumentException.class;
    private static final Class<?> BOUNDS = IndexOutOfBoundsException.class;

    private static int feedText(SowingHouse x, String text) {
        StringBuilder padded = new StringBuilder(text);
        while (padded.length() % 20 != 0) {
            padded.append(' ');
        }
        int answer = x.count(6);
        for (int i = 0; i < padded.length(); i += 20) {
            int[] five = new int[5];
            for (int j = 0; j < 20; j++) {
                five[j / 4] = five[j / 4] << 8 | padded.charAt(i + j);
            }
            answer = x.feed(five[0], five[1], five[2], five[3], five[4]);
        }
        return answer;
    }

    private static int read(SowingHouse x, String text) {
        feedText(x, text);
        return x.board(text.length());
    }

    private static SowingHouse house(String text) {
        SowingHouse x = new SowingHouse();
        if (read(x, text) < 0) {
            wrong++;
            System.out.println("not read: " + text + " fault " + x.fault(0) + " at " + x.fault(1));
        }
        return x;
    }

    private static void duePits(String what, SowingHouse x, int... want) {
        for (int p = 0; p < want.length; p++) {
            due(what + " pit(" + p + ")", x.pit(p), want[p]);
        }
    }

    private static void dueFault(String text, int kind, int place) {
        SowingHouse x = house("pits 2;lay 1 1;");
        x.move(0);
        due("board of '" + text + "'", read(x, text), kind == 0 ? x.count(0) : -10 - kind);
        due("fault(0) of '" + text + "'", x.fault(0), kind);
        due("fault(1) of '" + text + "'", x.fault(1), place);
        due("tape behind '" + text + "'", x.count(6), 0);
        if (kind != 0) {
            due("pits stay behind '" + text + "'", x.count(1), 2);
            due("moves stay behind '" + text + "'", x.count(4), 1);
            due("seeds stay behind '" + text + "'", x.pit(1), 2);
        }
    }

    // ---- the board

    private static void promise1() {
        SowingHouse x = new SowingHouse();
        due("NONE", SowingHouse.NONE, -1);
        due("SPENT", SowingHouse.SPENT, -1000);
        int[] counts = {0, 3, 0, 0, 0, 0, 0};
        for (int i = 0; i < counts.length; i++) {
            due("new count(" + i + ")", x.count(i), counts[i]);
        }
        duePits("new", x, 0, 0, 0, 0, 0, 0);
        due("new store", x.store(0) + x.store(1), 0);
        due("new mover", x.mover(), 0);
        due("new undo", x.undo(), false);
        due("new redo", x.redo(), false);
        due("new fault(0)", x.fault(0), 0);
        due("new fault(1)", x.fault(1), -1);
        for (int i = 0; i < 4; i++) {
            int tray = i;
            dueThrow("new pour", STATE, () -> x.pour(tray));
        }
        for (int i = 0; i < 3; i++) {
            int image = i;
            dueThrow("new restore", STATE, () -> x.restore(image));
        }
    }

    private static void promise2() {
        SowingHouse x = new SowingHouse();
        for (int i = 1; i <= 25; i++) {
            due("feed", x.feed(0x20202020, 0, -1, 7, 1 << 31), 20 * i);
        }
        due("feed beyond 500", x.feed(1, 2, 3, 4, 5), -1);
        due("tape stays", x.count(6), 500);
        due("500 bytes, a 0 among them", x.board(500), -11);
        due("place of the 0", x.fault(1), 4);
        due("highest first", x.feed(0x6669_7273, 0x7420_313b, 0, 0, 0), 20);
        due("first 1;", x.board(8), 1);
        due("first 1; mover", x.mover(), 1);
    }

    private static void promise3() {
        SowingHouse x = house("pits 2;lay 1 1 1 1;");
        x.move(0);
        due("an empty board", x.board(0), 0);
        due("an empty board's pits", x.count(1), 3);
        due("nothing to undo", x.undo(), false);
        feedText(x, "first 1;");
        dueThrow("board(-1)", ARGUMENT, () -> x.board(-1));
        dueThrow("board(21)", ARGUMENT, () -> x.board(21));
        due("tape stays behind a throw", x.count(6), 20);
        due("blanks at the end", x.board(20), 1);
        due("tape is empty then", x.count(6), 0);
        due("what is told last strikes", read(x, "lay 1 2 3;lay 4;take grand;take none;relay 3;relay 1;first 1;first 0;stored 1 2;stored 3 4;"), 10);
        duePits("later lay", x, 4, 2, 3, 0, 0, 0);
        due("later stored", x.store(0) * 100 + x.store(1), 304);
        due("later first", x.mover(), 0);
        due("no blanks", read(x, "pits1;lay20 20;first1;"), 3);
        due("seeds", x.count(2), 40);
        due("many blanks", read(x, "\n  pits  2 ;\n\nlay 001 ;  lacking 3;lacking 3 ; lacking 0;lay 0 1;"), 6);
        due("lacking", x.count(3), 2);
        due("three lays", read(x, "pits 2;lay 1 2;stores;lay 3 4 5 6;lay 7 0;"), 5);
        duePits("pit by pit, also a 0", x, 7, 0, 5, 6);
        due("the same lines in another order", read(x, "pits 2;lay 7 0;stores;lay 3 4 5 6;lay 1 2;"), 5);
        duePits("pit by pit, in another order", x, 1, 2, 5, 6);
        due("a faulty board between", read(x, "pits 2;lay 9 9 9 9;lay 21;"), -13);
        due("a board anew", read(x, "pits 2;lay 8;"), 2);
        duePits("no lay of another board is kept", x, 8, 0, 0, 0);
    }

    private static void promise4() {
        dueFault("pits 2;lay 1#;", 1, 12);
        dueFault("Pits 2;", 1, 0);
        dueFault("pits 2;\t", 1, 7);
        dueFault("lay 1000;", 1, 4);
        dueFault("lay 1 12345 x", 1, 6);
        dueFault("pits 2; 0001", 1, 8);
        for (char sign : new char[] {'`', '{', '/', ':', 'A', 'Z', '-', ',', 0, 9, 13, 127, 128, 255}) {
            dueFault("pits 2;" + sign, 1, 7);
        }
        for (String word : new String[] {"xits 2;", "ray 1;", "pitt 2;", "a;", "z;", "zz;", "skips;", "stor;", "storey;"}) {
            dueFault("skip;" + word, 2, 5);
        }
        dueFault("pits", 2, 4);
        dueFault("pits 2", 2, 6);
        dueFault("pits 2  ", 2, 8);
        dueFault(";", 2, 0);
        dueFault("2;", 2, 0);
        dueFault("pit 2;", 2, 0);
        dueFault("pits two;", 2, 5);
        dueFault("pits 2 2;", 2, 7);
        dueFault("pits 2;;", 2, 7);
        dueFault("skip;pits 2;", 2, 5);
        dueFault("pits 2;pits 2;", 2, 7);
        dueFault("stores 1;", 2, 7);
        dueFault("lay;", 2, 3);
        dueFault("lay 1 x;", 2, 6);
        dueFault("stored 1;", 2, 8);
        dueFault("stored 1 2 3;", 2, 11);
        dueFault("take;", 2, 4);
        dueFault("take starve;", 2, 5);
        dueFault("take opposite starve;", 2, 14);
        dueFault("take none none;", 2, 10);
        dueFault("takegrand;", 2, 0);
        dueFault("pits 0;", 3, 5);
        dueFault("pits 7;", 3, 5);
        dueFault("lay 0 21;", 3, 6);
        dueFault("stored 100 0;", 3, 7);
        dueFault("stored 0 100;", 3, 9);
        dueFault("pits 2;lacking 4;", 3, 15);
        dueFault("first 2;", 3, 6);
        dueFault("relay 0;", 3, 6);
        dueFault("relay 21;", 3, 6);
        dueFault("pits 9#", 3, 5);
        dueFault("pits 1;lay 0 0 0 0;", 4, 15);
        dueFault("pits 1;lay 0 0 21;", 3, 15);
        dueFault("lay 0 0 0 0 0 0 0#", 4, 16);
        dueFault("pits 6;lay 0 0 0 0 0 0 0 0 0 0 0 0 0;", 4, 35);
        dueFault("pits 6;lay 0 0 0 0 0 0 0 0 0 0 0 0;", 0, -1);
        dueFault("lay 1;lacking 0; ", 5, 17);
        dueFault("lay 20 20 1;", 5, 12);
        dueFault("lacking 0;lay 1;lay 0;", 0, -1);
        dueFault("lacking 1;lay 0 1;lay 0;", 5, 24);
        dueFault("lay 20 20 20;lay 0;", 0, -1);
        dueFault("lay 20 20;lay 0 0 1;lay 20 20;", 5, 30);
        dueFault("lay 1 1 1 1 1 1;lay 1 1 1 1 1 1 1;", 4, 32);
        dueFault("lay 20 20;", 0, -1);
        dueFault("pits 6;stored 99 99;relay 20;lacking 11;", 0, -1);
        SowingHouse x = house("pits 1;");
        read(x, "pits 7;");
        feedText(x, "pits 2;");
        dueThrow("board(30)", ARGUMENT, () -> x.board(30));
        due("fault stays behind a throw", x.fault(0), 3);
        due("fault(2)", x.fault(2), -1);
        due("fault(-1)", x.fault(-1), -1);
        x.board(7);
        due("fault goes", x.fault(0), 0);
        due("its place goes", x.fault(1), -1);
    }

    private static void promises5to7() {
        SowingHouse x = house("pits 2;lay 1 2 0 20;lacking 2;stored 7 99;first 1;");
        duePits("lacking", x, 1, 2, -1, 20);
        dueThrow("pit(-1)", NO_ELEMENT, () -> x.pit(-1));
        dueThrow("pit(4)", NO_ELEMENT, () -> x.pit(4));
        due("store(0)", x.store(0), 7);
        due("store(1)", x.store(1), 99);
        dueThrow("store(-1)", NO_ELEMENT, () -> x.store(-1));
        dueThrow("store(2)", NO_ELEMENT, () -> x.store(2));
        due("mover", x.mover(), 1);
        x.move(3);
        due("mover then", x.mover(), 0);
    }

    // ---- moves

    private static void promise8() {
        SowingHouse x = house("pits 3;lay 1 0 1 1;lacking 1;");
        due("may own", x.may(0), 0);
        due("may lacking", x.may(1), 1);
        due("may other", x.may(3), 1);
        due("may far", x.may(6), 1);
        due("may below", x.may(-1), 1);
        due("may very far", x.may(Integer.MIN_VALUE), 1);
        x = house("pits 2;lay 0 1;");
        due("may empty", x.may(0), 2);
        x = house("pits 2;lay 1 2 2 2;relay 1;");
        due("a round, and it ends", x.may(0), 0);
        due("two rounds", x.may(1), 3);
        due("two rounds at most", house("pits 2;lay 1 2 2 2;relay 2;").may(1), 0);
        x = house("pits 1;lay 1 2;relay 1;");
        due("all are long", x.may(0), 5);
        x = house("pits 2;lay 1 1;feed;");
        due("may 4", x.may(0), 4);
        due("may 4, who feeds", x.may(1), 0);
        x = house("pits 2;lay 1;feed;");
        due("nobody feeds", x.may(0), 0);
        x = house("pits 2;lay 0 0 1 1;");
        due("over", x.may(0), 5);
        due("over, other", x.may(2), 5);
        due("over, none", x.may(99), 5);
    }

    private static void promise9() {
        SowingHouse x = house("pits 2;lay 1 5 1 0;stores;lacking 3;");
        due("round the board", x.move(1), 2);
        duePits("store, pits 2, 0, 1, store", x, 2, 1, 2, -1);
        due("store(0)", x.store(0), 2);
        due("store(1)", x.store(1), 0);
        due("the other is to move", x.mover(), 1);
        due("no move", x.move(0), -1);
        due("side 1", x.move(2), 1);
        duePits("store 1, pit 0", x, 3, 1, 0, -1);
        x = house("pits 2;lay 0 5;skip;");
        x.move(1);
        duePits("passed by", x, 1, 0, 2, 2);
        x = house("pits 2;lay 0 5;");
        x.move(1);
        duePits("not passed by", x, 1, 1, 2, 1);
        x = house("pits 2;lay 1 0 5 0;take opposite;");
        x.move(0);
        duePits("opposite", x, 0, 0, 0, 0);
        due("opposite into the store", x.store(0), 6);
        due("stores needn't be sown", x.store(1), 0);
        x = house("pits 2;lay 1 0 0 1;take opposite;");
        due("nothing opposite", x.move(0), 0);
        x = house("pits 2;lay 1 1 5 0;take opposite;");
        due("had one", x.move(0), 0);
        x = house("pits 2;lay 0 4 0 3;take opposite;");
        due("own pit itself, sown round to", x.move(1), 0 + 1 + 1);
        x = house("pits 3;lay 0 0 3 2 1 1;take grand;");
        due("grand: 3, 2 and 2", x.move(2), 7);
        x = house("pits 3;lay 0 0 3 2 0 1;take grand;");
        due("grand ends at 1", x.move(2), 2);
        x = house("pits 3;lay 0 0 2 2 0 1;lacking 4;take grand;");
        due("grand over a lacking pit", x.move(2), 5);
        x = house("pits 3;lay 0 0 3 2 1 1;take grand starve;");
        due("starve", x.move(2), 0);
        x = house("pits 3;lay 0 0 2 2 1 1;take grand starve;");
        due("one is left", x.move(2), 5);
        x = house("pits 6;lay 0 0 0 0 0 1 0 0 0 0 0 2;stores;stored 1 0;take grand;");
        due("a store is no pit to be taken", x.move(5), 1);
        due("2 in the store", x.store(0), 2);
        due("2 in the pit", x.pit(11), 2);
        x = house("pits 2;lay 2 1 1 1;stores;again;");
        due("ends in the store", x.move(1), 1);
        due("moves again", x.mover(), 0);
        x = house("pits 2;lay 2 1 1 1;stores;");
        due("ends in the store, no again", x.move(1), 1);
        due("the other moves", x.mover(), 1);
    }

    private static void promise10() {
        SowingHouse x = house("pits 2;lay 2 1 1 0;stores;relay 20;again;take opposite;");
        due("rounds: 0 ends in pit 1, no: in the store", x.sown(0, 0), -1);
        due("no round", x.sown(0, 1), 0);
        due("taken", x.sown(0, 2), 0);
        due("again", x.sown(0, 3), 0);
        due("sown changes nothing", x.pit(0), 2);
        dueThrow("empty", NO_ELEMENT, () -> house("pits 2;lay 0 1;").sown(0, 0));
        dueThrow("other side's", NO_ELEMENT, () -> x.sown(2, 0));
        dueThrow("far", NO_ELEMENT, () -> x.sown(-1, 9));
        dueThrow("lacking", NO_ELEMENT, () -> house("pits 2;lay 0 1;lacking 0;").sown(0, 0));
        dueThrow("what 4", ARGUMENT, () -> x.sown(0, 4));
        dueThrow("what -1", ARGUMENT, () -> x.sown(0, -1));
        dueThrow("long", STATE, () -> house("pits 1;lay 1 2;relay 1;").sown(0, 9));
        dueThrow("nothing else on the way", STATE, () -> house("pits 1;lay 1;lacking 1;skip;").sown(0, 0));
        due("but the store", house("pits 1;lay 1;lacking 1;skip;stores;").sown(0, 0), -1);
        SowingHouse y = house("pits 2;lay 1 1 1 0;relay 1;take opposite;first 0;");
        due("one round", y.sown(0, 1), 1);
        due("last", y.sown(0, 0), 3);
        due("mover then", y.sown(0, 3), 1);
        SowingHouse z = house("pits 2;lay 1 1;feed;");
        due("who must be fed isn't asked", z.sown(0, 0), 1);
        SowingHouse w = house("pits 2;lay 1 0 5 0;take opposite;");
        due("taken opposite", w.sown(0, 2), 6);
    }

    private static void promises11and12() {
        SowingHouse x = house("pits 1;lay 1 1;stored 4 5;");
        for (int i = 0; i < 45; i++) {
            x.move(x.mover());
        }
        due("40 are kept", x.count(4), 40);
        for (int i = 0; i < 40; i++) {
            due("undo", x.undo(), true);
        }
        due("no more", x.undo(), false);
        due("who is to move there", x.mover(), 1);
        duePits("there", x, 0, 2);
        due("to be redone", x.count(5), 40);
        due("redo", x.redo(), true);
        duePits("redone", x, 1, 1);
        due("one less", x.count(5), 39);
        due("a move that can't be", x.move(1), -1);
        due("keeps redo", x.count(5), 39);
        due("a move", x.move(0), 0);
        due("ends redo", x.redo(), false);
        due("count(5)", x.count(5), 0);
        due("undo of a redone one", x.undo() && x.undo(), true);
        due("stores", x.store(0) * 10 + x.store(1), 45);
        SowingHouse y = house("pits 1;lay 1 1;stores;again;");
        y.move(0);
        due("same side", y.mover(), 1 - 1);
        y.undo();
        duePits("undone", y, 1, 1);
        due("store undone", y.store(0), 0);
        y.redo();
        due("store redone", y.store(0), 1);
        due("mover redone", y.mover(), 0);
    }

    private static void promises13and14() {
        SowingHouse x = house("pits 2;lay 1 0 3 1;stored 5 1;");
        due("not over", x.over(), false);
        due("score", x.score(), 4);
        x = house("pits 2;lay 0 0 3 1;stored 5 1;");
        due("over", x.over(), true);
        due("score over", x.score(), 0);
        x = house("pits 2;lay 2 0 0 0;first 1;");
        due("over, side 1", x.over(), true);
        due("score of side 0", x.score(), 2);
        x = house("pits 1;lay 1 2;relay 1;");
        due("over, all long", x.over(), true);
    }

    private static void promises15and16() {
        SowingHouse x = house("pits 2;lay 1 1 1 1;");
        x.tray(1, 3, 4);
        x.write(1, 0, 1);
        x.write(1, 1, 3);
        x.write(1, 2, (1L << 32) + 1);
        due("first that can't be", x.judge(1, 0), 2);
        due("why: no such pit", x.judge(1, 1), 1);
        due("who then", x.judge(1, 3), 0);
        due("nothing stays", x.pit(1), 1);
        due("no move was made", x.count(4), 0);
        dueThrow("judge(1, 4)", ARGUMENT, () -> x.judge(1, 4));
        dueThrow("judge(1, -1)", ARGUMENT, () -> x.judge(1, -1));
        dueThrow("judge(0, 9)", STATE, () -> x.judge(0, 9));
        dueThrow("judge(4, 9)", NO_ELEMENT, () -> x.judge(4, 9));
        dueThrow("judge(-1, 0)", NO_ELEMENT, () -> x.judge(-1, 0));
        x.move(0);
        x.undo();
        due("perform", x.perform(1), 2);
        duePits("performed", x, 2, 0, 2, 0);
        due("kept", x.count(4), 2);
        due("no redo", x.count(5), 0);
        x.undo();
        due("perform none", x.perform(1), 0);
        due("keeps redo", x.count(5), 1);
        dueThrow("perform(0)", STATE, () -> x.perform(0));
        dueThrow("perform(4)", NO_ELEMENT, () -> x.perform(4));
        x.tray(2, 0, 0);
        due("an empty tray", x.judge(2, 0), -1);
        due("an empty tray's why", x.judge(2, 1), 0);
        due("perform an empty tray", x.perform(2), 0);
        SowingHouse y = house("pits 1;lay 1 0;stored 3 1;stores;");
        y.tray(0, 0, 2);
        due("over behind one", y.judge(0, 0), 1);
        due("why: over", y.judge(0, 1), 5);
        due("score then", y.judge(0, 2), 3);
    }

    // ---- positions

    private static void promises17to19() {
        SowingHouse x = house("pits 2;lay 0 2 0 1;lacking 2;first 1;");
        due("3 pits, 0 seeds", x.positions(0, 0), 1);
        due("3 pits, 3 seeds", x.positions(1, 3), 10);
        due("3 pits, 40 seeds", x.positions(1, 40), 861);
        dueThrow("side 2", NO_ELEMENT, () -> x.positions(2, 41));
        dueThrow("41 seeds", ARGUMENT, () -> x.positions(1, 41));
        dueThrow("-1 seeds", ARGUMENT, () -> x.positions(0, -1));
        due("side 1 sees 1 0 2: behind 3, 21, 2.1, 12, 11", x.place(), 5);
        due("own first", x.ofPlace(1, 3, 5, 0), -1);
        due("own second", x.ofPlace(1, 3, 5, 1), 1);
        due("other's first", x.ofPlace(1, 3, 5, 2), 0);
        due("other's second", x.ofPlace(1, 3, 5, 3), 2);
        due("side 0 sees it otherwise", x.ofPlace(0, 3, 5, 2), -1);
        due("side 0's last", x.ofPlace(0, 3, 9, 3), 3);
        dueThrow("ofPlace side", NO_ELEMENT, () -> x.ofPlace(-1, 41, -1, -1));
        dueThrow("ofPlace s", ARGUMENT, () -> x.ofPlace(0, 41, -1, -1));
        dueThrow("ofPlace k", NO_ELEMENT, () -> x.ofPlace(0, 3, 10, -1));
        dueThrow("ofPlace k below", NO_ELEMENT, () -> x.ofPlace(0, 3, -1, 0));
        dueThrow("ofPlace i", BOUNDS, () -> x.ofPlace(0, 3, 0, 4));
        dueThrow("ofPlace i below", BOUNDS, () -> x.ofPlace(0, 3, 0, -1));
        SowingHouse y = house("pits 6;lay 1 1 1 1 1 1;");
        due("12 pits, 5", y.positions(0, 5), 4368);
        due("12 pits, 6", y.positions(0, 6), -1000);
        due("12 pits, 40", y.positions(0, 40), -1000);
        due("place spent", y.place(), -1000);
        dueThrow("ofPlace spent", STATE, () -> y.ofPlace(0, 6, -1, -1));
        SowingHouse z = house("pits 1;lacking 0;lacking 1;");
        due("no pits, no seeds", z.positions(0, 0), 1);
        due("no pits, a seed", z.positions(0, 1), 0);
        dueThrow("no such one", NO_ELEMENT, () -> z.ofPlace(0, 1, 0, 0));
        SowingHouse w = house("pits 2;lay 3 0 1 2;");
        for (int k = 0; k < w.positions(0, 6); k++) {
            boolean here = w.ofPlace(0, 6, k, 0) == 3 && w.ofPlace(0, 6, k, 1) == 0 && w.ofPlace(0, 6, k, 2) == 1;
            due("place told back " + k, here, w.place() == k);
        }
    }

    // ---- best play

    /** One seed, no rules: from the first pit it goes to the second, where it stays with its side. */
    private static void promises20to28() {
        SowingHouse x = house("pits 2;lay 0 1;");
        int[] values = {1, -1, -1, -1};
        int[] ranks = {1, 2, 0, 0};
        int[] bests = {0, 1, -1, -1};
        for (int side = 0; side < 2; side++) {
            for (int k = 0; k < 4; k++) {
                due("valueOf " + k, x.valueOf(side, 1, k), values[k]);
                due("row rank " + k, x.row(side, 1, k, 0), ranks[k]);
                due("row best " + k, x.row(side, 1, k, 1), bests[k]);
                due("row moves " + k, x.row(side, 1, k, 2), k < 2 ? 1 : 0);
                due("row best moves " + k, x.row(side, 1, k, 3), k < 2 ? 1 : 0);
                due("row worth 0 " + k, x.row(side, 1, k, 10), k == 0 ? 1 : -1000);
                due("row worth 1 " + k, x.row(side, 1, k, 11), k == 1 ? -1 : -1000);
            }
        }
        due("value", x.value(), -1);
        due("rank", x.rank(), 2);
        due("best", x.best(), 1);
        due("worth(1)", x.worth(1), -1);
        due("worth(0)", x.worth(0), -1000);
        due("worth(2)", x.worth(2), -1000);
        due("worth(33)", x.worth(33), -1000);
        due("tally above", x.tally(0, 1, 0), 1);
        due("tally 0", x.tally(0, 1, 1), 0);
        due("tally below", x.tally(1, 1, 2), 3);
        due("tally over", x.tally(1, 1, 3), 2);
        due("tally no seeds", x.tally(1, 0, 1), 1);
        due("find", x.find(0, 1, -1, 0), 1);
        due("find on", x.find(0, 1, -1, 2), 3);
        due("find no more", x.find(0, 1, -1, 3), -1);
        due("find below", x.find(0, 1, -1, -1), -1);
        due("find another", x.find(0, 1, 7, 0), -1);
        int[] mosts = {1, 0, -1, 1, 2, 1};
        for (int what = 0; what < 6; what++) {
            due("most " + what, x.most(1, 1, what), mosts[what]);
        }
        dueThrow("valueOf side", NO_ELEMENT, () -> x.valueOf(2, 41, 9));
        dueThrow("valueOf s", ARGUMENT, () -> x.valueOf(1, -1, 9));
        dueThrow("valueOf k", NO_ELEMENT, () -> x.valueOf(1, 1, 4));
        dueThrow("valueOf spent", STATE, () -> x.valueOf(1, 40, -1));
        dueThrow("row what 12", ARGUMENT, () -> x.row(0, 1, 0, 12));
        dueThrow("row what 4", ARGUMENT, () -> x.row(0, 1, 0, 4));
        dueThrow("row what -1", ARGUMENT, () -> x.row(0, 1, 0, -1));
        dueThrow("row k first", NO_ELEMENT, () -> x.row(0, 1, 4, 12));
        dueThrow("row spent", STATE, () -> x.row(0, 18, 0, 0));
        due("17 of 4 pits are solved", x.tally(0, 17, 0) + x.tally(0, 17, 1) + x.tally(0, 17, 2), 1140);
        dueThrow("tally side", NO_ELEMENT, () -> x.tally(-1, 41, 4));
        dueThrow("tally s", ARGUMENT, () -> x.tally(0, 41, 0));
        dueThrow("tally what ahead of spent", ARGUMENT, () -> x.tally(0, 18, 4));
        dueThrow("tally spent", STATE, () -> x.tally(0, 18, 0));
        dueThrow("find side", NO_ELEMENT, () -> x.find(2, 41, 0, 0));
        dueThrow("find s", ARGUMENT, () -> x.find(0, 41, 0, 0));
        dueThrow("find spent", STATE, () -> x.find(0, 18, 0, 0));
        dueThrow("most side", NO_ELEMENT, () -> x.most(2, 41, 6));
        dueThrow("most s", ARGUMENT, () -> x.most(0, 41, 0));
        dueThrow("most what ahead of spent", ARGUMENT, () -> x.most(0, 18, 6));
        dueThrow("most spent", STATE, () -> x.most(0, 18, 5));
    }

    private static void promises20to23() {
        SowingHouse x = house("pits 1;lay 0 3;");
        due("over: value", x.value(), -3);
        due("over: rank", x.rank(), 0);
        due("over: best", x.best(), -1);
        due("over: worth", x.worth(0), -1000);
        x = house("pits 1;lay 1 1;");
        due("a ring: value", x.value(), 0);
        due("a ring: rank", x.rank(), 0);
        due("a ring: best", x.best(), 0);
        x = house("pits 2;lay 1 1 0 3;stores;again;take opposite;");
        due("one into the store, then the best that is left", x.worth(1), 1 + valueBehind(x, 1));
        due("nothing brought, then the other's best", x.worth(0), -valueBehind(x, 0));
        x = house("pits 6;lay 5;");
        due("spent: value", x.value(), -1000);
        due("spent: rank", x.rank(), -1);
        due("spent: best", x.best(), -1);
        due("spent: worth", x.worth(0), -1000);
        x = house("pits 6;lay 4;lacking 11;");
        due("solved: value", x.value() != -1000, true);
        x = house("pits 2;lay 1 1 0 0;stores;");
        due("bring one, keep the other", x.value(), 2);
        due("first of like ones", x.best(), 0);
    }

    private static int valueBehind(SowingHouse x, int p) {
        x.move(p);
        int value = x.value();
        x.undo();
        return value;
    }

    private static void promise29() {
        SowingHouse x = house("pits 2;lay 0 1;");
        due("swapped: side 1 sees 0 0 0 1", x.swapped(), -1);
        x = house("pits 2;lay 1 0;first 1;");
        due("swapped to side 0", x.swapped(), 1);
        due("nothing changes", x.mover(), 1);
        due("swapped spent", house("pits 6;lay 5;").swapped(), -1000);
    }

    private static void promise30() {
        SowingHouse x = house("pits 2;lay 0 1;stored 5 0;");
        due("line", x.line(-1), 2);
        due("line(0)", x.line(0), 1);
        due("line(1)", x.line(1), 2);
        due("line(2)", x.line(2), -1);
        due("line(max)", x.line(Integer.MAX_VALUE), -1);
        due("no ring", x.line(-2), 0);
        due("score at its end", x.line(-3), 4);
        due("nothing stays", x.pit(1), 1);
        x = house("pits 1;lay 1 1;");
        due("ring", x.line(-2), 1);
        due("ring of 2", x.line(-1), 2);
        x = house("pits 4;lay 0 1 0 0 0 2 0 3;feed;");
        due("60 at most", x.line(-1), 60);
        due("no ring till then", x.line(-2), 0);
        due("the 60th", x.line(59) >= 0, true);
        due("no 61st", x.line(60), -1);
        x = house("pits 4;lay 2 2 2 0 0 0 0 0;feed;relay 17;");
        due("60 with the ring", x.line(-1), 60);
        due("a ring at last", x.line(-2), 1);
        SowingHouse y = house("pits 6;lay 5;");
        dueThrow("line(-4)", ARGUMENT, () -> y.line(-4));
        dueThrow("line spent", STATE, () -> y.line(-3));
    }

    // ---- plays

    private static void promises31to33() {
        SowingHouse x = house("pits 2;lay 1 1 1 1;");
        due("plays(0)", x.plays(0), 1);
        due("plays(1)", x.plays(1), 2);
        due("plays(2): 2 behind 0, 2 behind 1", x.plays(2), 4);
        dueThrow("plays(-1)", ARGUMENT, () -> x.plays(-1));
        dueThrow("plays(6)", ARGUMENT, () -> x.plays(6));
        due("reached(0)", x.reached(0), 1);
        due("reached(1)", x.reached(1), 2);
        dueThrow("reached(-1)", ARGUMENT, () -> x.reached(-1));
        dueThrow("reached(5)", ARGUMENT, () -> x.reached(5));
        due("nothing stays", x.pit(0) + x.count(4), 1);
        SowingHouse z = house("pits 4;lay 1 0 1 0 1;");
        due("0 4 1, 0 4 2, 2 4 0, 2 4 3", z.plays(3), 4);
        due("0 4 2 and 2 4 0 are alike", z.reached(3), 3);
        SowingHouse e = house("pits 2;lay 0 0 1 0;");
        due("over: plays(0)", e.plays(0), 1);
        due("over: plays(1)", e.plays(1), 0);
        due("over: reached(1)", e.reached(1), 0);
        due("over: soonest", e.soonest(-1), 0);
        due("over: soonest(0)", e.soonest(0), -1);
        SowingHouse w = house("pits 2;lay 0 1;");
        due("soonest", w.soonest(-1), 2);
        due("soonest(0)", w.soonest(0), 1);
        due("soonest(1)", w.soonest(1), 2);
        due("soonest(2)", w.soonest(2), -1);
        due("soonest(-2)", w.soonest(-2), -1);
        w.move(1);
        due("soonest then", w.soonest(-1), 1);
        due("soonest(0) then", w.soonest(0), 2);
        read(w, "pits 2;lay 0 1;");
        due("soonest of a board", w.soonest(-1), 2);
        read(w, "pits 2;lay 1 1;");
        due("one more in the first pit: 0, then the other has none", w.soonest(-1), 1);
        read(w, "pits 2;");
        due("soonest of an empty one", w.soonest(-1), 0);
        read(w, "pits 2;lay 0 1;stores;");
        due("other rules", w.soonest(-1), 1);
        due("never", house("pits 1;lay 1 1;").soonest(-1), -1);
        SowingHouse six = house("pits 6;lay 1;feed;");
        due("one seed along: 0 to 5, but the other has none", six.soonest(-1), 1);
        SowingHouse first = house("pits 2;lay 1 0 1 1;take opposite;");
        due("of like ones the first", first.soonest(0), 0);
    }

    private static void promises34and35() {
        SowingHouse x = house("pits 2;lay 2 1 1 1;stores;take opposite;");
        due("ends in the store", x.pits(0), 3);
        due("takes", x.pits(1), 0);
        due("starves", x.pits(2), 0);
        dueThrow("pits(-1)", ARGUMENT, () -> x.pits(-1));
        dueThrow("pits(3)", ARGUMENT, () -> x.pits(3));
        SowingHouse y = house("pits 2;lay 1 0 1 0;take opposite;first 0;");
        due("takes by 0", y.pits(1), 1);
        due("and starves", y.pits(2), 1);
        SowingHouse z = house("pits 2;lay 1 0 1 0;take opposite;first 1;");
        due("bits of side 1", z.pits(1), 4);
        SowingHouse f = house("pits 2;lay 1 1;feed;");
        due("who can't be isn't told", f.pits(2), 0);
        due("forced", f.forced() > 0, true);
        due("two can be", house("pits 2;lay 1 1 1 1;").forced(), 0);
        due("over", house("pits 2;").forced(), 0);
        due("60 at most", house("pits 1;lay 1 1;").forced(), 60);
        due("1, 2, over", house("pits 2;lay 0 1;").forced(), 2);
    }

    private static void promises36and37() {
        SowingHouse x = house("pits 3;lay 1 1 1 1 1 1;stores;stored 10 0;");
        for (int seed = -3; seed < 40; seed++) {
            SowingHouse by = house("pits 3;lay 1 1 1 1 1 1;stores;stored 10 0;");
            int at = seed;
            int made = 0;
            while (!by.over() && made < 100) {
                at = at * 1103515245 + 12345;
                int can = 0;
                for (int p = 0; p < 6; p++) {
                    can += by.may(p) == 0 ? 1 : 0;
                }
                int which = (at >>> 16) % can;
                for (int p = 0; p < 6; p++) {
                    if (by.may(p) == 0 && which-- == 0) {
                        by.move(p);
                        break;
                    }
                }
                made++;
            }
            due("play score " + seed, x.play(seed, 0), by.score());
            due("play moves " + seed, x.play(seed, 1), made);
            due("play over " + seed, x.play(seed, 2), by.over() ? 1 : 0);
        }
        dueThrow("play what", ARGUMENT, () -> x.play(1, 3));
        dueThrow("play what below", ARGUMENT, () -> x.play(1, -1));
        due("never over", house("pits 1;lay 1 1;").play(9, 2), 0);
        due("100 moves", house("pits 1;lay 1 1;").play(9, 1), 100);
        SowingHouse y = house("pits 2;lay 1 1 1 1;stores;first 1;");
        for (int seed = 0; seed < 20; seed++) {
            SowingHouse by = house("pits 2;lay 1 1 1 1;stores;first 1;");
            int at = seed;
            int made = 0;
            while (!by.over() && made < 100) {
                if (by.mover() == 1) {
                    by.move(by.best());
                } else {
                    at = at * 1103515245 + 12345;
                    boolean two = by.may(0) == 0 && by.may(1) == 0;
                    by.move(two ? (at >>> 16) % 2 : by.may(0) == 0 ? 0 : 1);
                }
                made++;
            }
            due("against score " + seed, y.against(seed, 0), by.score());
            due("against moves " + seed, y.against(seed, 1), made);
            due("against over " + seed, y.against(seed, 2), by.over() ? 1 : 0);
        }
        dueThrow("against what", ARGUMENT, () -> y.against(1, 3));
        SowingHouse z = house("pits 6;lay 5;");
        dueThrow("against spent first", STATE, () -> z.against(1, 3));
        due("play isn't spent", z.play(1, 1) > 0, true);
    }

    // ---- trays, images

    private static void promises38to40() {
        SowingHouse x = house("pits 2;lay 1 1 1 1;");
        dueThrow("tray -1", NO_ELEMENT, () -> x.tray(-1, 9, 9));
        dueThrow("tray 4", NO_ELEMENT, () -> x.tray(4, 0, 1));
        dueThrow("sort 4", ARGUMENT, () -> x.tray(0, 4, 1));
        dueThrow("sort -1", ARGUMENT, () -> x.tray(0, -1, 1));
        dueThrow("41", ARGUMENT, () -> x.tray(0, 0, 41));
        dueThrow("-1", ARGUMENT, () -> x.tray(0, 0, -1));
        dueThrow("missing", STATE, () -> x.write(0, 99, 1));
        dueThrow("write to no tray", NO_ELEMENT, () -> x.write(4, 0, 1));
        long v = 0x1122_3344_99AA_BBCCL;
        long[] cuts = {(byte) v, (short) v, (int) v, v};
        for (int sort = 0; sort < 4; sort++) {
            x.tray(sort, sort, 40);
            due("write, sort " + sort, x.write(sort, 39, v), cuts[sort]);
            due("write 5, sort " + sort, x.write(sort, 0, 5), 5);
        }
        dueThrow("place 40", BOUNDS, () -> x.write(0, 40, 1));
        dueThrow("place -1", BOUNDS, () -> x.write(0, -1, 1));
        dueThrow("pour to no tray", NO_ELEMENT, () -> x.pour(-1));
        x.tray(0, 0, 2);
        due("pour none", x.pour(0), 0);
        x.move(1);
        x.move(2);
        x.move(0);
        x.undo();
        due("pour two", x.pour(0), 2);
        x.undo();
        x.undo();
        due("they can be made", x.perform(0), 2);
        x.tray(1, 3, 1);
        due("as many as it has places", x.pour(1), 1);
        x.undo();
        x.undo();
        due("the first of them", x.perform(1), 1);
        due("from pit 1", x.pit(1), 0);
        x.tray(0, 0, 3);
        x.undo();
        due("new trays are of 0s", x.perform(0), 1);
        due("from pit 0", x.pit(0), 0);
        x.tray(0, 0, 2);
        x.write(0, 1, 9);
        due("pour one", x.pour(0), 1);
        x.undo();
        due("the second stays", x.judge(0, 0), 1);
        due("it is no pit", x.judge(0, 1), 1);
        x.tray(2, 2, 0);
        due("no places", x.pour(2), 0);
        dueThrow("no place", BOUNDS, () -> x.write(2, 0, 1));
    }

    private static void promises41and42() {
        SowingHouse x = house("pits 2;lay 1 1 1 1;stores;again;");
        dueThrow("image 3", NO_ELEMENT, () -> x.image(3));
        dueThrow("image -1", NO_ELEMENT, () -> x.image(-1));
        dueThrow("restore 3", NO_ELEMENT, () -> x.restore(3));
        dueThrow("restore 2", STATE, () -> x.restore(2));
        x.move(1);
        x.image(2);
        due("an image keeps moves", x.count(4), 1);
        x.tray(0, 0, 2);
        x.write(0, 1, 7);
        read(x, "pits 1;lay 3;stored 1 1;first 1;lacking 1;relay 2;");
        x.image(0);
        read(x, "pits 9;");
        feedText(x, "pits 3;");
        x.restore(2);
        duePits("restored", x, 1, 0, 1, 1);
        due("store restored", x.store(0), 1);
        due("mover restored", x.mover(), 0);
        due("lines restored", x.count(0), 4);
        due("nothing to undo", x.undo(), false);
        due("nothing to redo", x.redo(), false);
        due("the tape stays", x.count(6), 20);
        due("the fault stays", x.fault(0), 3);
        due("trays stay", x.judge(0, 0), 1);
        due("rules restored: 0 ends in pit 1", x.sown(0, 0), 1);
        x.move(0);
        x.undo();
        x.restore(0);
        due("no redo behind a restore", x.count(5), 0);
        due("the other image", x.count(1) * 100 + x.count(0), 106);
        due("its lacking pit", x.pit(1), -1);
        due("its mover", x.mover(), 1);
        x.restore(2);
        x.restore(2);
        due("an image stays", x.pit(0), 1);
    }

    private static void promise43() {
        SowingHouse x = house("pits 4;lay 1 2 3 0 4;lacking 3;lacking 7;lacking 3;first 0;stored 9 9;");
        feedText(x, "abc");
        x.move(0);
        x.move(4);
        x.undo();
        int[] counts = {7, 4, 10, 2, 1, 1, 20};
        for (int i = 0; i < counts.length; i++) {
            due("count(" + i + ")", x.count(i), counts[i]);
        }
        due("count(7)", x.count(7), -1);
        due("count(-1)", x.count(-1), -1);
    }

    public static void main(String[] args) {
        promise1();
        promise2();
        promise3();
        promise4();
        promises5to7();
        promise8();
        promise9();
        promise10();
        promises11and12();
        promises13and14();
        promises15and16();
        promises17to19();
        promises20to28();
        promises20to23();
        promise29();
        promise30();
        promises31to33();
        promises34and35();
        promises36and37();
        promises38to40();
        promises41and42();
        promise43();
        System.out.println(checks + " checks, " + wrong + " wrong");
        if (wrong != 0) {
            System.exit(1);
        }
    }
}
