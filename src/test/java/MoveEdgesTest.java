/** The edges that promises 8 to 16 name: which moves can be, how they go, undo and redo, the end, moves of a tray. */
public final class MoveEdgesTest {
    private static final String RING = "pits 1;lay 1 1;stored 4 5;";

    private static void dueMove(String text, int p, int brought, int... pits) {
        SowingHouse x = Due.house(text);
        Due.due("move(" + p + ") of " + text, x.move(p), brought);
        Due.duePits("then, of " + text, x, pits);
    }

    private static void dueTaken(String text, int p, int taken) {
        Due.due("sown(" + p + ", 2) of " + text, Due.house(text).sown(p, 2), taken);
    }

    // ---- promise 8

    private static void whyNot() {
        Due.says(8, "1 it isn't an own PIT of who is to move, or LACKING");
        for (int n = 1; n <= 6; n++) {
            for (int side = 0; side < 2; side++) {
                String text = "pits " + n + ";lay " + "1 ".repeat(2 * n) + ";first " + side + ";";
                SowingHouse x = Due.house(text);
                for (int p = -2; p <= 2 * n + 1; p++) {
                    boolean own = p >= side * n && p < side * n + n;
                    Due.due("may(" + p + ") of " + text, x.may(p), own ? 0 : 1);
                }
            }
        }
        SowingHouse far = Due.house("pits 6;lay 1 1;");
        for (int p : Due.FAR) {
            Due.due("may(" + p + ")", far.may(p), 1);
        }
        SowingHouse x = Due.house("pits 3;lay 1 0 0 1;lacking 1;");
        Due.due("lacking", x.may(1), 1);
        Due.due("empty", x.may(2), 2);

        Due.says(8, "2 no seeds");
        SowingHouse y = Due.house("pits 6;lay 0 1 0 0 0 0 1 0 0 0 0 0;");
        for (int p = 0; p < 6; p++) {
            Due.due("may(" + p + ")", y.may(p), p == 1 ? 0 : 2);
        }
        Due.due("another side's without seeds", y.may(7), 1);
    }

    private static void longMoves() {
        Due.says(8, "with more than so many ROUNDS the MOVE is LONG (also, with skip, if there is nothing else on THE WAY).");
        Due.due("2 rounds of 1", Due.house("pits 2;lay 1 2 2 2;relay 1;").may(1), 3);
        Due.due("2 rounds of 2", Due.house("pits 2;lay 1 2 2 2;relay 2;").may(1), 0);
        Due.due("as many as 2", Due.house("pits 2;lay 1 2 2 2;relay 2;").sown(1, 1), 2);
        Due.due("as many as 20", Due.house("pits 3;lay 1 4 0 2 1 4;relay 20;").sown(1, 1), 20);
        Due.due("20 rounds of 19", Due.house("pits 3;lay 1 4 0 2 1 4;relay 19;").may(1), 3);
        Due.refused(Due.STATE, "21 rounds of 20", "pits 3;lay 2 3 4 2 4;relay 20;", x -> x.sown(0, 0));
        Due.due("no relay, no rounds", Due.house("pits 2;lay 1 2 2 2;").sown(1, 1), 0);
        Due.due("a pit alone on the way", Due.house("pits 1;lay 1;lacking 1;skip;").may(0), 5);
        Due.due("with seeds of 20", Due.house("pits 1;lay 20;lacking 1;skip;relay 20;").may(0), 5);
        Due.due("not passed by", Due.house("pits 1;lay 1;lacking 1;").may(0), 0);
        Due.due("beside its store", Due.house("pits 1;lay 1;lacking 1;skip;stores;").may(0), 0);
        Due.due("of side 1", Due.house("pits 1;lay 0 1;lacking 0;skip;first 1;").may(1), 5);
        Due.due("beside another", Due.house("pits 1;lay 1;skip;").may(0), 0);

        Due.says(8, "3 LONG");
        SowingHouse x = Due.house("pits 2;lay 1 2 2 2;relay 1;");
        Due.due("the other one can be", x.may(0), 0);
        Due.due("long", x.may(1), 3);
        SowingHouse y = Due.house("pits 2;lay 2 2 1 2;relay 1;first 1;");
        Due.due("the other one of side 1 can be", y.may(2), 0);
        Due.due("long, of side 1", y.may(3), 3);

        Due.says(8, "relay: if that is a PIT that had seeds ahead of it, all in it are taken up and sown on likewise from there (a ROUND), again and again");
        for (int side = 0; side < 2; side++) {
            String last = side == 0 ? "pits 2;lay 0 1 0 0;" : "pits 2;lay 0 0 0 1;first 1;";
            SowingHouse store = Due.house(last + "stores;stored 5 5;relay 1;");
            int p = 2 * side + 1;
            Due.due("last is a store that had seeds", store.may(p), 0);
            Due.due("no round", store.sown(p, 1), 0);
            store.move(p);
            Due.due("it has one more", store.store(side), 6);
        }
        Due.due("a pit that had none", Due.house("pits 2;lay 1;relay 1;").sown(0, 1), 0);
        Due.due("a pit that had one", Due.house("pits 2;lay 1 1;relay 1;").sown(0, 1), 1);
        Due.due("the pit itself had none, as all were taken up", Due.house("pits 1;lay 2;relay 1;").sown(0, 1), 0);
    }

    private static void whoMustBeFed() {
        Due.says(8, "4 with feed: the other SIDE would have no seeds in its PITS then, and some other MOVE (neither LONG) leaves it some.");
        SowingHouse x = Due.house("pits 2;lay 1 1;feed;");
        Due.due("leaves none", x.may(0), 4);
        Due.due("leaves one", x.may(1), 0);
        Due.due("without feed", Due.house("pits 2;lay 1 1;").may(0), 0);
        Due.due("no other move", Due.house("pits 2;lay 1;feed;").may(0), 0);
        SowingHouse none = Due.house("pits 3;lay 1 1;feed;");
        Due.due("no other move leaves it some", none.may(0) + none.may(1), 0);
        SowingHouse taken = Due.house("pits 2;lay 0 1 1 1;take grand;feed;");
        Due.due("one is left behind the taking", taken.may(1), 0);
        SowingHouse all = Due.house("pits 2;lay 1 1 1;take grand;feed;");
        Due.due("all would be taken", all.may(1), 4);
        Due.due("the other one leaves it", all.may(0), 0);
        Due.due("and who is starved by all", Due.house("pits 2;lay 0 1 1;take grand;feed;").may(1), 0);
        SowingHouse longOne = Due.house("pits 3;lay 1 0 7;relay 2;feed;");
        Due.due("who would feed is long", longOne.may(0), 0);
        Due.due("long ahead of feed", longOne.may(2), 3);
        SowingHouse enough = Due.house("pits 3;lay 1 0 7;relay 3;feed;");
        Due.due("who would feed isn't long", enough.may(0), 4);
        Due.due("and can be", enough.may(2), 0);
        SowingHouse one = Due.house("pits 2;lay 0 0 1 1;feed;first 1;");
        Due.due("side 1 must feed", one.may(2), 4);
        Due.due("side 1 feeds", one.may(3), 0);
        SowingHouse relayed = Due.house("pits 3;lay 0 0 0 1 0 7;relay 3;feed;first 1;");
        Due.due("side 1 must feed by a relay", relayed.may(3), 4);
        Due.due("side 1 feeds by a relay", relayed.may(5), 0);
        SowingHouse again = Due.house("pits 2;lay 2 1;stores;again;feed;");
        Due.due("who moves again isn't asked", again.may(0) + again.may(1), 0);
    }

    private static void overFirst() {
        Due.says(8, "5 it is OVER. (5 first, then the least.)");
        for (String text : new String[] {"", "pits 2;lay 0 0 1 1;", "pits 2;lay 1 1;first 1;", "pits 1;lay 1 2;relay 1;",
            "pits 1;lacking 0;lacking 1;", "pits 2;lacking 0;lay 0 0 2;feed;"}) {
            SowingHouse x = Due.house(text);
            for (int p = -1; p <= 4; p++) {
                Due.due("may(" + p + ") of " + text, x.may(p), 5);
            }
            for (int p : Due.FAR) {
                Due.due("may(" + p + ") of " + text, x.may(p), 5);
            }
        }

        Due.says(8, "Why a MOVE from a PIT can't be; 0.");
        SowingHouse x = Due.house("pits 2;lay 1 1;feed;");
        Due.dueOnly("may(1)", x, y -> y.may(1), 0);
        Due.dueOnly("may(0)", x, y -> y.may(0), 4);
    }

    // ---- promise 9

    private static void theWay() {
        Due.says(9, "THE WAY of a SIDE goes over its own PITS upward, its STORE (if stores), the other SIDE's PITS upward, and its own again; LACKING PITS aren't in it.");
        dueMove("pits 1;lay 5;", 0, 0, 2, 3);
        dueMove("pits 1;lay 5;stores;", 0, 2, 1, 2);
        dueMove("pits 2;lay 0 5;stores;", 1, 1, 1, 1, 1, 1);
        dueMove("pits 2;lay 0 6;stores;", 1, 2, 1, 1, 1, 1);
        dueMove("pits 2;lay 0 0 0 3;first 1;", 3, 0, 1, 1, 1, 0);
        dueMove("pits 2;lay 0 0 0 3;first 1;stores;", 3, 1, 1, 1, 0, 0);
        dueMove("pits 2;lay 0 0 3;first 1;stores;", 2, 1, 1, 0, 0, 1);
        dueMove("pits 3;lay 0 3;lacking 2;lacking 3;", 1, 0, 1, 0, -1, -1, 1, 1);
        dueMove("pits 3;lay 0 3;lacking 2;lacking 3;stores;", 1, 1, 0, 0, -1, -1, 1, 1);
        dueMove("pits 3;lay 0 0 0 0 0 2;lacking 0;lacking 1;first 1;", 5, 0, -1, -1, 1, 1, 0, 0);
        dueMove("pits 1;lay 3;lacking 1;", 0, 0, 3, -1);
        dueMove("pits 1;lay 3;lacking 1;stores;", 0, 2, 1, -1);
        dueMove("pits 6;lay 20;", 0, 0, 1, 2, 2, 2, 2, 2, 2, 2, 2, 1, 1, 1);
        SowingHouse x = Due.house("pits 2;lay 0 5;stores;stored 1 7;");
        x.move(1);
        Due.due("the own store is sown", x.store(0), 2);
        Due.due("the other's isn't", x.store(1), 7);

        Due.says(9, "(skip: that PIT itself is passed by as long as these are sown)");
        dueMove("pits 1;lay 5;skip;", 0, 0, 0, 5);
        dueMove("pits 2;lay 0 4;skip;", 1, 0, 1, 0, 2, 1);
        dueMove("pits 2;lay 0 3;skip;", 1, 0, 1, 0, 1, 1);
        dueMove("pits 6;lay 20;skip;", 0, 0, 0, 2, 2, 2, 2, 2, 2, 2, 2, 2, 1, 1);
        dueMove("pits 1;lay 3;lacking 1;skip;stores;", 0, 3, 0, -1);
        dueMove("pits 2;lay 5 0 0 0;skip;relay 1;", 0, 0, 1, 2, 0, 2);
    }

    private static void opposite() {
        Due.says(9, "opposite: if LAST is an own PIT that had none ahead of it, and there are seeds OPPOSITE (and that isn't LACKING): these and that one.");
        dueMove("pits 2;lay 1 0 5;take opposite;", 0, 6, 0, 0, 0, 0);
        dueMove("pits 2;lay 1 0 1;take opposite;", 0, 2, 0, 0, 0, 0);
        dueMove("pits 2;lay 1 0 0 5;take opposite;", 0, 0, 0, 1, 0, 5);
        dueMove("pits 2;lay 1 1 5;take opposite;", 0, 0, 0, 2, 5, 0);
        dueMove("pits 2;lay 1;lacking 2;take opposite;", 0, 0, 0, 1, -1, 0);
        dueMove("pits 2;lay 0 1 0 5;take opposite;", 1, 0, 0, 0, 1, 5);
        dueMove("pits 2;lay 0 4 0 3;take opposite;", 1, 2, 1, 0, 0, 4);
        dueMove("pits 2;lay 0 3 0 3;take opposite;", 1, 5, 0, 0, 1, 0);
        dueMove("pits 1;lay 2;take opposite;", 0, 2, 0, 0);
        dueMove("pits 2;lay 1 0 5;", 0, 0, 0, 1, 5, 0);
        dueMove("pits 2;lay 0 5 1 0;take opposite;first 1;", 2, 0, 0, 5, 0, 1);
        dueMove("pits 2;lay 5 0 1 0;take opposite;first 1;", 2, 6, 0, 0, 0, 0);
        dueMove("pits 2;lay 3 0 5;stores;take opposite;", 0, 1, 0, 1, 6, 0);
        for (String take : new String[] {"", "take none;", "take opposite;"}) {
            dueTaken("pits 2;lay 0 1 1;" + take, 1, 0);
            dueTaken("pits 2;lay 0 1 0 5;stores;" + take, 1, 0);
        }

        Due.says(9, "OPPOSITE to PIT p is 2 n less 1 less p.");
        for (int n = 2; n <= 6; n++) {
            for (int p = 1; p < n; p++) {
                StringBuilder lay = new StringBuilder("pits " + n + ";lay ");
                for (int q = 0; q < 2 * n; q++) {
                    lay.append(q == p - 1 ? "1 " : q == 2 * n - 1 - p ? "7 " : "0 ");
                }
                dueTaken(lay + ";take opposite;", p - 1, 8);
            }
        }
    }

    private static void grand() {
        Due.says(9, "grand: if LAST is a PIT of the other SIDE with 2 or 3 seeds then, these, and those of the PIT ahead of it on THE WAY, if it is the other SIDE's and has 2 or 3, and so on");
        int[] had = {0, 1, 2, 3, 4};
        int[] taken = {0, 2, 3, 0, 0};
        for (int i = 0; i < had.length; i++) {
            dueTaken("pits 2;lay 0 1 " + had[i] + " 1;take grand;", 1, taken[i]);
            dueTaken("pits 2;lay 0 2 " + had[i] + " 1;take grand;", 1, 2 + taken[i]);
            dueTaken("pits 2;lay 0 2 1 " + had[i] + ";take grand;", 1, taken[i] == 0 ? 0 : taken[i] + 2);
        }
        dueTaken("pits 3;lay 0 0 3 1 2 1;take grand;", 2, 7);
        dueTaken("pits 3;lay 0 0 3 1 0 1;take grand;", 2, 2);
        dueMove("pits 2;lay 2 1 1;take grand;", 0, 2, 0, 2, 0, 0);
        dueMove("pits 2;lay 1 1 2;take grand;", 0, 0, 0, 2, 2, 0);
        dueMove("pits 2;lay 0 1 1;take grand;", 1, 2, 0, 0, 0, 0);
        dueMove("pits 1;lay 2 1;stores;stored 1 0;take grand;", 0, 3, 0, 0);
        dueMove("pits 3;lay 0 0 2 2 0 1;lacking 4;take grand;", 2, 5, 0, 0, 0, 0, -1, 0);
        dueMove("pits 2;lay 1 2 0 2;take grand;first 1;", 3, 5, 0, 0, 0, 0);
        dueMove("pits 2;lay 2 1 0 1;take grand;first 1;", 3, 3, 0, 1, 0, 0);
        for (int stored = 0; stored <= 4; stored++) {
            dueMove("pits 2;lay 0 1 0 2;stores;stored " + stored + " 0;take grand;", 1, 1, 0, 0, 0, 2);
            dueMove("pits 2;lay 0 2 0 1;stores;stored 0 " + stored + ";first 1;take grand;", 3, 1, 0, 2, 0, 0);
            dueTaken("pits 2;lay 0 1 0 2;stores;stored " + stored + " 0;take grand;", 1, 0);
            dueTaken("pits 6;lay 0 0 0 0 0 1 0 0 0 0 0 2;stores;stored " + stored + " 0;take grand;", 5, 0);
        }
        dueMove("pits 6;lay 0 0 0 0 0 6 1 1 1 1 1 1;take grand;", 5, 12, 0, 0, 0, 0, 0, 0, 0, 0, 0, 0, 0, 0);

        Due.says(9, "starve: nothing, if all the other SIDE has in PITS would be taken.");
        dueMove("pits 2;lay 0 2 1 1;take grand starve;", 1, 0, 0, 0, 2, 2);
        dueMove("pits 2;lay 0 2 1 1;take grand;", 1, 4, 0, 0, 0, 0);
        dueMove("pits 3;lay 0 0 2 1 1 1;take grand starve;", 2, 4, 0, 0, 0, 0, 0, 1);
        dueMove("pits 2;lay 0 1 1 1;take grand starve;", 1, 2, 0, 0, 0, 1);
        dueMove("pits 2;lay 0 1 1;take grand starve;", 1, 0, 0, 0, 2, 0);
        dueMove("pits 2;lay 1 1 0 2;take grand starve;first 1;", 3, 0, 2, 2, 0, 0);
        dueTaken("pits 2;lay 0 2 1 1;take grand starve;", 1, 0);
        dueTaken("pits 2;lay 0 1 0 1;take grand starve;", 1, 0);
        dueTaken("pits 2;lay 0 1 1 1;take grand starve;", 1, 2);
    }

    private static void movesAndRefusals() {
        Due.says(9, "A MOVE: what is brought into the STORE, sown or TAKEN");
        dueMove("pits 2;lay 0 1;", 1, 0, 0, 0, 1, 0);
        dueMove("pits 2;lay 0 1;stores;", 1, 1, 0, 0, 0, 0);
        dueMove("pits 2;lay 0 4 0 3;take opposite;stores;", 1, 6, 0, 0, 1, 0);
        SowingHouse most = Due.house("pits 1;lay 20 20;stored 99 99;stores;skip;take grand;");
        Due.due("10 of 20", most.move(0), 10);
        Due.due("109", most.store(0), 109);

        Due.says(9, "Then the other SIDE is to move; with again the same one, if LAST is its STORE.");
        String[] rules = {"", "stores;", "again;", "stores;again;"};
        for (int i = 0; i < rules.length; i++) {
            SowingHouse x = Due.house("pits 2;lay 1 1 1 1;" + rules[i]);
            x.move(1);
            Due.due("last is the store, " + rules[i], x.mover(), i == 3 ? 0 : 1);
            SowingHouse y = Due.house("pits 2;lay 1 1 1 1;" + rules[i]);
            y.move(0);
            Due.due("last is a pit, " + rules[i], y.mover(), 1);
            SowingHouse z = Due.house("pits 2;lay 1 1 1 1;first 1;" + rules[i]);
            z.move(3);
            Due.due("of side 1, " + rules[i], z.mover(), i == 3 ? 1 : 0);
        }

        Due.says(9, "below 0: less why it can't be (nothing happens).");
        String[] texts = {"pits 2;lay 1 1 1;", "pits 2;lay 0 1 1;", "pits 2;lay 2 1 2 2;relay 1;", "pits 2;lay 1 1;feed;", "pits 2;lay 0 0 1;"};
        int[] pits = {2, 0, 0, 0, 2};
        for (int why = 1; why <= 5; why++) {
            int p = pits[why - 1];
            Due.dueOnly("move(" + p + ") of " + texts[why - 1], Due.busyHouse(texts[why - 1]), x -> x.move(p), -why);
        }
        for (int p : Due.FAR) {
            Due.dueOnly("move(" + p + ")", Due.busyHouse("pits 2;lay 1 1;"), x -> x.move(p), -1);
        }
        Due.dueOnly("move(-1)", Due.busyHouse("pits 2;lay 1 1;"), x -> x.move(-1), -1);
        SowingHouse undone = Due.house(RING);
        undone.move(0);
        undone.undo();
        Due.dueOnly("a move that can't be, behind undo", undone, x -> x.move(1), -1);
        Due.due("it can be done again", undone.redo(), true);
    }

    // ---- promise 10

    private static void sown() {
        Due.says(10, "what 0: LAST (NONE: the STORE), 1: ROUNDS, 2: what is TAKEN, 3: who is to move then");
        SowingHouse x = Due.house("pits 2;lay 1 1 1 0;stores;again;relay 20;take opposite;");
        Due.dueOnly("last is the store", x, y -> y.sown(1, 0), -1);
        Due.dueOnly("no round", x, y -> y.sown(1, 1), 0);
        Due.dueOnly("nothing taken", x, y -> y.sown(1, 2), 0);
        Due.dueOnly("again", x, y -> y.sown(1, 3), 0);
        SowingHouse first = Due.house("pits 2;lay 0 0 0 1;first 1;");
        Due.due("last is pit 0", first.sown(3, 0), 0);
        Due.due("side 0 then", first.sown(3, 3), 0);
        SowingHouse far = Due.house("pits 6;lay 11;");
        Due.due("last is pit 11", far.sown(0, 0), 11);
        Due.due("the pit itself", Due.house("pits 1;lay 2;").sown(0, 0), 0);

        Due.says(10, "NoSuchElementException: it can't be by 1 or 2; IllegalStateException: LONG; IllegalArgumentException: another what.");
        String text = "pits 3;lay 1 0 0 1;lacking 2;";
        for (int p : new int[] {-1, 1, 2, 3, 4, 6, Integer.MIN_VALUE, Integer.MAX_VALUE}) {
            Due.refused(Due.NO_ELEMENT, "sown(" + p + ", 0)", text, y -> y.sown(p, 0));
            Due.refused(Due.NO_ELEMENT, "sown(" + p + ", 4)", text, y -> y.sown(p, 4));
        }
        Due.refused(Due.STATE, "long", "pits 2;lay 1 2 2 2;relay 1;", y -> y.sown(1, 0));
        Due.refused(Due.STATE, "long, another what", "pits 2;lay 1 2 2 2;relay 1;", y -> y.sown(1, 4));
        Due.refused(Due.STATE, "nothing else on the way", "pits 1;lay 1;lacking 1;skip;", y -> y.sown(0, -1));
        Due.refused(Due.ARGUMENT, "sown(0, -1)", text, y -> y.sown(0, -1));
        Due.refused(Due.ARGUMENT, "sown(0, 4)", text, y -> y.sown(0, 4));
        for (int what : Due.FAR) {
            Due.refused(Due.ARGUMENT, "sown(0, " + what + ")", text, y -> y.sown(0, what));
        }

        Due.says(10, "(Whether it is OVER, who must be fed, isn't asked.)");
        Due.due("who must be fed", Due.house("pits 2;lay 1 1;feed;").sown(0, 0), 1);
        Due.refused(Due.STATE, "over, long", "pits 1;lay 1 2;relay 1;", y -> y.sown(0, 0));
        Due.refused(Due.NO_ELEMENT, "over, no seeds", "pits 1;lay 0 2;", y -> y.sown(0, 0));
    }

    // ---- promises 11 and 12

    private static void undoAndRedo() {
        Due.says(11, "The latest MOVE is undone (40 at most)");
        for (int made : new int[] {1, 39, 40, 41, 80, 95}) {
            SowingHouse x = Due.house(RING);
            for (int i = 0; i < made; i++) {
                x.move(x.mover());
            }
            int kept = Math.min(40, made);
            Due.due("kept of " + made, x.count(4), kept);
            for (int i = 0; i < kept; i++) {
                Due.due("undo " + i + " of " + made, x.undo(), true);
            }
            int left = made - kept;
            Due.dueOnly("one more of " + made, x, y -> y.undo() ? 1 : 0, 0);
            Due.due("to be done again of " + made, x.count(5), kept);
            Due.due("mover behind " + left, x.mover(), left % 2);
            Due.duePits("behind " + left, x, 1 - left % 2, 1 + left % 2);
        }

        Due.says(11, "false: there is none.");
        SowingHouse none = Due.house(RING);
        Due.dueOnly("nothing to be undone", none, y -> y.undo() ? 1 : 0, 0);
        Due.due("a move that can't be", none.move(1), -1);
        Due.dueOnly("is nothing to be undone", none, y -> y.undo() ? 1 : 0, 0);
        none.move(0);
        Due.due("one", none.undo(), true);
        Due.dueOnly("no second one", none, y -> y.undo() ? 1 : 0, 0);

        Due.says(11, "The latest MOVE is undone");
        SowingHouse x = Due.house("pits 2;lay 1 2 1 1;stores;again;take opposite;stored 9 8;");
        String first = Due.board(x);
        x.move(0);
        x.move(3);
        x.move(2);
        x.undo();
        x.undo();
        x.undo();
        String last = Due.board(x);
        Due.due("stores, pits and who is to move", last.substring(last.indexOf("pits")).equals(first.substring(first.indexOf("pits"))), true);

        Due.says(12, "The latest that was undone is done again, if no other one was made since; false: there is none.");
        SowingHouse y = Due.house(RING);
        Due.dueOnly("nothing was undone", y, z -> z.redo() ? 1 : 0, 0);
        y.move(0);
        Due.dueOnly("a move isn't undone", y, z -> z.redo() ? 1 : 0, 0);
        y.move(1);
        y.undo();
        y.undo();
        Due.due("the first again", y.redo(), true);
        Due.duePits("done again", y, 0, 2);
        Due.due("the second again", y.redo(), true);
        Due.duePits("done again", y, 1, 1);
        Due.dueOnly("no third", y, z -> z.redo() ? 1 : 0, 0);
        y.undo();
        y.move(1);
        Due.dueOnly("another one was made", y, z -> z.redo() ? 1 : 0, 0);
        y.undo();
        Due.lay(y, 0, 0, 1);
        Due.due("made by perform", y.perform(0), 1);
        Due.dueOnly("another one was made", y, z -> z.redo() ? 1 : 0, 0);
        SowingHouse full = Due.house(RING);
        for (int i = 0; i < 43; i++) {
            full.move(full.mover());
        }
        for (int i = 0; i < 40; i++) {
            full.undo();
        }
        for (int i = 0; i < 40; i++) {
            Due.due("redo " + i, full.redo(), true);
        }
        Due.due("no 41st", full.redo(), false);
        Due.due("to be undone", full.count(4), 40);
        Due.due("43 moves", full.mover(), 1);
    }

    // ---- promises 13 and 14

    private static void theEnd() {
        Due.says(13, "OVER is it, if who is to move has no MOVE that can be");
        Due.due("no seeds", Due.house("pits 2;").over(), true);
        Due.due("none of its own", Due.house("pits 2;lay 0 0 1 1;").over(), true);
        Due.due("some of its own", Due.house("pits 2;lay 0 1;").over(), false);
        Due.due("none of its own, side 1", Due.house("pits 2;lay 1 1;first 1;").over(), true);
        Due.due("some of its own, side 1", Due.house("pits 2;lay 1 1 0 1;first 1;").over(), false);
        Due.due("all long", Due.house("pits 1;lay 1 2;relay 1;").over(), true);
        Due.due("one isn't long", Due.house("pits 2;lay 1 2 2 2;relay 1;").over(), false);
        Due.due("all starve", Due.house("pits 2;lay 1;feed;").over(), false);
        Due.due("all lack", Due.house("pits 1;lacking 0;lacking 1;").over(), true);

        Due.says(14, "SCORE: what STORE 0 has less STORE 1 (OVER: and PITS likewise).");
        Due.due("not over", Due.house("pits 2;lay 5 1 0 2;stored 3 4;").score(), -1);
        Due.due("over", Due.house("pits 2;lay 0 0 1 2;stored 3 4;").score(), -4);
        Due.due("over, side 1", Due.house("pits 2;lay 1 2;stored 3 4;first 1;").score(), 2);
        Due.due("all long", Due.house("pits 1;lay 1 2;relay 1;stored 1 0;").score(), 0);
        Due.due("least", Due.house("pits 2;lay 0 0 20 20;stored 0 99;").score(), -139);
        Due.due("greatest", Due.house("pits 2;lay 20 20;stored 99 0;first 1;").score(), 139);
        SowingHouse x = Due.house("pits 2;lay 0 0 1 2;");
        x.score();
        Due.duePits("what lies in pits stays there", x, 0, 0, 1, 2);
        Due.due("so does the store", x.store(1), 0);
    }

    // ---- promises 15 and 16

    private static void judge() {
        String text = "pits 2;lay 1 1 1 1;stored 3 1;";
        Due.says(15, "what 0: the first place that can't be (NONE), 1: why (0), 2: SCORE then, 3: who is to move then");
        long[][] rows = {{}, {0}, {9}, {0, 9}, {0, 2}, {-1}, {1L << 32}, {Long.MIN_VALUE}, {Long.MAX_VALUE}, {0, 2, 0}, {0, 2, 1, 1}};
        int[][] dues = {{-1, 0, 2, 0}, {-1, 0, 2, 1}, {0, 1, 2, 0}, {1, 1, 2, 1}, {-1, 0, 2, 0}, {0, 1, 2, 0}, {0, 1, 2, 0}, {0, 1, 2, 0},
            {0, 1, 2, 0}, {2, 2, 2, 0}, {3, 1, 2, 1}};
        for (int i = 0; i < rows.length; i++) {
            SowingHouse x = Due.house(text);
            Due.lay(x, 2, 3, rows[i]);
            for (int what = 0; what < 4; what++) {
                int asked = what;
                Due.dueOnly("judge of row " + i + ", what " + what, x, y -> y.judge(2, asked), dues[i][what]);
            }
        }
        SowingHouse over = Due.house("pits 2;lay 0 1;stored 3 1;stores;");
        Due.lay(over, 0, 0, 1, 2);
        int[] overDues = {1, 5, 3, 1};
        for (int what = 0; what < 4; what++) {
            Due.due("over behind one, what " + what, over.judge(0, what), overDues[what]);
        }
        SowingHouse full = Due.house("pits 1;lay 1 1;");
        full.tray(0, 1, 40);
        for (int i = 0; i < 40; i++) {
            full.write(0, i, i % 2);
        }
        Due.due("40 moves", full.judge(0, 0), -1);
        full.write(0, 39, 0);
        Due.due("the last of 40 can't be", full.judge(0, 0), 39);
        Due.due("why", full.judge(0, 1), 1);
        Due.due("who", full.judge(0, 3), 1);

        Due.says(15, "NoSuchElementException: no such TRAY (as below); IllegalStateException: it is MISSING (as below); IllegalArgumentException: another what.");
        for (int tray : new int[] {-1, 4, Integer.MIN_VALUE, Integer.MAX_VALUE}) {
            Due.refused(Due.NO_ELEMENT, "judge(" + tray + ", 0)", text, x -> x.judge(tray, 0));
            Due.refused(Due.NO_ELEMENT, "judge(" + tray + ", 4)", text, x -> x.judge(tray, 4));
        }
        for (int what : new int[] {-1, 4, Integer.MIN_VALUE, Integer.MAX_VALUE}) {
            Due.refused(Due.STATE, "judge(0, " + what + ")", text, x -> x.judge(0, what));
            Due.refused(Due.ARGUMENT, "judge(3, " + what + ")", text, x -> x.judge(3, what));
        }
        Due.refused(Due.STATE, "judge(2, 0)", text, x -> x.judge(2, 0));
    }

    private static void perform() {
        String text = "pits 2;lay 1 1 1 1;";
        Due.says(16, "They are made, till one can't be: how many were.");
        long[][] rows = {{}, {9}, {2}, {0}, {0, 2}, {0, 9, 2}, {0, (1L << 32) + 2}, {0, -1}};
        int[] dues = {0, 0, 0, 1, 2, 1, 1, 1};
        for (int i = 0; i < rows.length; i++) {
            SowingHouse x = Due.house(text);
            Due.lay(x, 1, 3, rows[i]);
            Due.due("perform of row " + i, x.perform(1), dues[i]);
            Due.due("to be undone behind row " + i, x.count(4), dues[i]);
            Due.due("mover behind row " + i, x.mover(), dues[i] % 2);
        }
        SowingHouse none = Due.house(text);
        none.move(0);
        none.undo();
        Due.lay(none, 0, 0, 3);
        Due.dueOnly("none is made behind undo", none, x -> x.perform(0), 0);
        Due.due("it can be done again", none.redo(), true);
        SowingHouse full = Due.house(RING);
        full.tray(0, 2, 40);
        for (int i = 0; i < 40; i++) {
            full.write(0, i, i % 2);
        }
        Due.due("40 moves", full.perform(0), 40);
        Due.due("40 are kept", full.count(4), 40);
        Due.due("40 more", full.perform(0), 40);
        Due.due("still 40", full.count(4), 40);
        SowingHouse over = Due.house("pits 2;lay 0 1;stores;");
        Due.lay(over, 0, 0, 1, 2);
        Due.due("till it is over", over.perform(0), 1);

        Due.says(16, "NoSuchElementException: no such TRAY (as below); IllegalStateException: it is MISSING (as below)");
        for (int tray : new int[] {-1, 4, Integer.MIN_VALUE, Integer.MAX_VALUE}) {
            Due.refused(Due.NO_ELEMENT, "perform(" + tray + ")", text, x -> x.perform(tray));
        }
        for (int i = 0; i < 3; i++) {
            int tray = i;
            Due.refused(Due.STATE, "perform(" + i + ")", text, x -> x.perform(tray));
        }
    }

    public static void main(String[] args) {
        whyNot();
        longMoves();
        whoMustBeFed();
        overFirst();
        theWay();
        opposite();
        grand();
        movesAndRefusals();
        sown();
        undoAndRedo();
        theEnd();
        judge();
        perform();
        Due.end(8, 16);
    }
}
