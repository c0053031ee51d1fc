/** The terms' sentences on STREAMS and the tree, one test each: at their bounds, just inside and just outside. */
public final class EdgesTreeTermsTest {
    private static final long UNIT = Edges.UNIT;
    private static final int BAD = HungStreams.BAD, NO = HungStreams.NO, NONE = HungStreams.NONE;
    private static final Edges E = new Edges();

    public static void main(String[] args) {
        calls512();
        greatestTurn();
        root();
        numbersLeast();
        numbersMost();
        parent();
        weight();
        ready();
        window();
        urgency();
        stepwise();
        openOrClosed();
        counters();
        whoComes();
        whoComesAgain();
        children();
        below();
        pool();
        size();
        keep();
        scheme();
        frames();
        floors();
        hangs();
        alone();
        aloneItself();
        movedBelow();
        movedBelowAlone();
        closedReady();
        goesByAge();
        childrenOfWhatGoes();
        weightsLeft();
        thereNoMore();
        goesWhenClosed();
        goesWhenKeepChanges();
        goesBehindEachFrame();
        goesLeastFirst();
        E.end();
    }

    private static void calls512() {
        E.says(0, "An object is used for at most 512 calls after it has been made");
        HungStreams x = new HungStreams();
        E.due("call 1", x.comes(1, 0, 1, 0), 0);
        for (int call = 2; call <= 511; call++) {
            E.due("call " + call, x.window(1, call), call == 2 ? 1000 : call - 1);
        }
        E.due("call 512", x.of(1, 3), 511);
        for (int call = 513; call <= 2000; call++) {
            x.sends(100);
            x.type(48);
            x.digest();
        }
    }

    // As much as can be sent within 512 calls does not wrap around.
    private static void greatestTurn() {
        E.says(0, "BYTES times 720720 by its WEIGHT more");
        HungStreams x = new HungStreams();
        x.comes(1, 0, 1, 0);
        x.settings(1, 999);
        for (int pool = 0; pool < 16; pool++) {
            x.settings(0, 99999);
            for (int i = 0; i < 10; i++) {
                x.readies(1, 9999);
                x.window(1, 9999);
                x.sends(100);
            }
        }
        E.due("SENT", x.of(1, 8), 160 * 9999);
        E.due("TURN", x.turn(1, 0), 160 * 9999 * UNIT);
        E.due("FLOOR", x.turn(0, 1), (160 * 9999 - 9) * UNIT);
        E.due("FRAMES", x.told(8), 160 * 11);
    }

    private static void root() {
        E.says(0, "THE ROOT is 0, always there");
        HungStreams x = new HungStreams();
        E.due("FLOOR of a new one's", x.turn(0, 1), 0);
        E.due("hang on it", x.comes(7, 0, 1, 0), 0);
        x.settings(2, 0);
        x.closes(7);
        E.due("all have gone", x.comes(7, 0, 1, 0), 0);
        x.builds();
        E.due("an empty text was built", x.comes(7, 0, 1, 0), 0);
        E.bad("it can not come", y -> y.comes(0, 0, 1, 0));
        E.bad("it can not be moved", y -> y.moves(0, 1, 1, 0));
        E.bad("it can not be closed", y -> y.closes(0));
    }

    private static void numbersLeast() {
        E.says(0, "STREAMS are told by numbers 1 ..");
        E.due("comes(1, ..)", new HungStreams().comes(1, 0, 1, 0), 0);
        E.bad("comes(0, ..)", y -> y.comes(0, 0, 1, 0));
        E.bad("comes(-1, ..)", y -> y.comes(-1, 0, 1, 0));
        E.bad("comes(least, ..)", y -> y.comes(Integer.MIN_VALUE, 0, 1, 0));
    }

    private static void numbersMost() {
        E.says(0, "12, none is there at first.");
        HungStreams x = new HungStreams();
        E.due("all(0) at first", x.all(0), 0);
        for (int s = 1; s <= 12; s++) {
            E.due("of(" + s + ", 0) at first", x.of(s, 0), BAD);
        }
        for (int s = 1; s <= 12; s++) {
            E.due("comes(" + s + ", ..)", x.comes(s, 0, 1, 0), 0);
        }
        E.due("all(0) then", x.all(0), 8190);
        E.bad("comes(13, ..)", y -> y.comes(13, 0, 1, 0));
        // 32 more is the same bit of an int.
        E.bad("comes(38, ..)", y -> y.comes(38, 0, 1, 0));
        E.bad("of(33, 0)", y -> y.of(33, 0));
    }

    private static void parent() {
        E.says(0, "A STREAM has a PARENT (THE ROOT or a STREAM)");
        HungStreams x = Check.built("12:1(1:1)");
        E.due("THE ROOT", x.of(12, 0), 0);
        E.due("a STREAM", x.of(1, 0), 12);
        E.bad("none that is not there", y -> y.comes(6, 7, 1, 0));
    }

    private static void weight() {
        E.says(0, "WEIGHT (1 .. 16)");
        HungStreams x = new HungStreams();
        E.due("comes, least", x.comes(1, 0, 1, 0), 0);
        E.due("comes, most", x.comes(2, 0, 16, 0), 0);
        E.due("moves, most", x.moves(1, 0, 16, 0), 0);
        E.due("moves, least", x.moves(2, 0, 1, 0), 0);
        E.due("sets, least", x.sets(1, 0, 1), 16);
        E.due("sets, most", x.sets(2, 0, 16), 1);
        E.bad("comes, too small", y -> y.comes(6, 0, 0, 0));
        E.bad("comes, too large", y -> y.comes(6, 0, 17, 0));
        E.bad("moves, too small", y -> y.moves(4, 0, 0, 0));
        E.bad("moves, too large", y -> y.moves(4, 0, 17, 0));
        E.bad("sets, too small", y -> y.sets(4, 0, 0));
        E.bad("sets, too large", y -> y.sets(4, 0, 17));
    }

    private static void ready() {
        E.says(0, "READY (bytes that wait, 0 .. 9999)");
        HungStreams x = Check.built("1:1");
        E.due("least", x.of(1, 2), 0);
        E.due("most", x.readies(1, 9999), 9999);
        E.due("it is so", x.of(1, 2), 9999);
        E.due("not more", x.readies(1, 1), NO);
    }

    private static void window() {
        E.says(0, "WINDOW (0 .. 9999)");
        HungStreams x = Check.built("1:1");
        E.due("least", x.window(1, 0), 1000);
        E.due("most", x.window(1, 9999), 0);
        E.due("it is so", x.of(1, 3), 9999);
        E.bad("too small", y -> y.window(1, -1));
        E.bad("too large", y -> y.window(1, 10000));
    }

    private static void urgency() {
        E.says(0, "URGENCY (0 .. 7)");
        HungStreams x = Check.built("1:1");
        E.due("least", x.sets(1, 1, 0), 3);
        E.due("most", x.sets(1, 1, 7), 0);
        E.due("it is so", x.of(1, 4), 7);
        E.bad("too small", y -> y.sets(1, 1, -1));
        E.bad("too large", y -> y.sets(1, 1, 8));
    }

    private static void stepwise() {
        E.says(0, "STEPWISE (0, 1)");
        HungStreams x = Check.built("1:1");
        E.due("most", x.sets(1, 2, 1), 0);
        E.due("it is so", x.of(1, 5), 1);
        E.due("least", x.sets(1, 2, 0), 1);
        E.bad("too small", y -> y.sets(1, 2, -1));
        E.bad("too large", y -> y.sets(1, 2, 2));
    }

    private static void openOrClosed() {
        E.says(0, "whether it is OPEN or CLOSED");
        HungStreams x = Check.built("1:1");
        E.due("OPEN", x.of(1, 6), 1);
        x.closes(1);
        E.due("CLOSED", x.of(1, 6), 0);
    }

    private static void counters() {
        E.says(0, "AGE, TURN, SENT, WAIT, LONGEST, LAST.");
        HungStreams x = Check.built("1:1 2:1 3:1");
        x.closes(3);
        x.readies(1, 100);
        x.readies(2, 100);
        x.sends(2);
        E.due("AGE", x.of(3, 7), 2);
        E.due("TURN", x.turn(2, 0), 100 * UNIT);
        E.due("SENT", x.of(2, 8), 100);
        E.due("WAIT", x.of(2, 9), 0);
        E.due("LONGEST", x.of(2, 10), 1);
        E.due("LAST", x.of(2, 11), 2);
    }

    private static void whoComes() {
        E.says(0, "One that comes is OPEN, URGENCY 3, WINDOW 1000, all others of these 0 (TURN as told), LAST NONE.");
        HungStreams x = Check.built("1:1");
        x.readies(1, 300);
        x.sends(3);
        x.comes(2, 0, 9, 0);
        anew(x, 2, 0, 9);
        E.due("TURN as told", x.turn(2, 0), 200 * UNIT);
    }

    private static void anew(HungStreams x, int s, int parent, int weight) {
        int[] due = {parent, weight, 0, 1000, 3, 0, 1, 0, 0, 0, 0, NONE, 0, 0, 0, 0};
        for (int what = 0; what < due.length; what++) {
            E.due("of(" + s + ", " + what + ")", x.of(s, what), due[what]);
        }
    }

    private static void whoComesAgain() {
        E.says(0, "all others of these 0");
        HungStreams x = Check.built("1:1(3:1) 2:1");
        x.sets(1, 1, 0);
        x.sets(1, 2, 1);
        x.window(1, 100);
        x.readies(1, 100);
        x.readies(2, 400);
        x.readies(3, 200);
        x.settings(2, 2);
        x.sends(5);
        E.due("it sent", x.of(1, 8), 100);
        E.due("its FLOOR was raised", x.turn(1, 1), 100 * UNIT);
        x.closes(1);
        x.sends(2);
        E.due("it has gone", x.of(1, 8), BAD);
        x.comes(1, 2, 7, 0);
        anew(x, 1, 2, 7);
        E.due("FLOOR", x.turn(1, 1), 0);
    }

    private static void children() {
        E.says(0, "CHILDREN of one: those whose PARENT it is");
        HungStreams x = Check.built("5:1(1:1(2:1) 12:1) 6:1");
        E.due("none", x.of(6, 12), 0);
        E.due("not what is deeper", x.of(5, 12), 2);
        E.due("none at all", x.of(12, 12), 0);
        E.due("as many as can be",
            Check.built("7:1(1:1 2:1 3:1 4:1 5:1 6:1 8:1 9:1 10:1 11:1 12:1)").of(7, 12), 11);
    }

    private static void below() {
        E.says(0, "BELOW it: its CHILDREN and all BELOW them.");
        HungStreams x = Check.built("12:1(11:1(10:1(9:1(8:1(7:1(6:1(5:1(4:1(3:1(2:1(1:1)))))))))))");
        for (int s = 1; s <= 12; s++) {
            E.due("of(" + s + ", 13)", x.of(s, 13), s - 1);
        }
        E.due("the first and the last", Check.built("5:1(1:1 12:1)").of(5, 13), 2);
        E.due("not what is beside", Check.built("1:1(2:1) 3:1(4:1)").of(1, 13), 1);
    }

    private static void setting(int what, int atFirst, int least, int most) {
        HungStreams x = new HungStreams();
        E.due("at first", x.told(4 + what), atFirst);
        E.due("least", x.settings(what, least), atFirst);
        E.due("most", x.settings(what, most), least);
        E.due("it is so", x.told(4 + what), most);
        E.bad("too small", y -> y.settings(what, least - 1));
        E.bad("too large", y -> y.settings(what, most + 1));
    }

    private static void pool() {
        E.says(0, "POOL (0 .. 99999; 10000 at first)");
        setting(0, 10000, 0, 99999);
    }

    private static void size() {
        E.says(0, "SIZE (1 .. 999; 100 at first)");
        setting(1, 100, 1, 999);
    }

    private static void keep() {
        E.says(0, "KEEP (0 .. 50; 10 at first)");
        setting(2, 10, 0, 50);
    }

    private static void scheme() {
        E.says(0, "SCHEME (0 by the tree, 1 by urgency; 0 at first).");
        setting(3, 0, 0, 1);
        HungStreams x = Check.built("1:1(2:1)");
        x.readies(1, 1);
        x.readies(2, 1);
        x.sets(2, 1, 0);
        E.due("by the tree", x.next(), 1);
        x.settings(3, 1);
        E.due("by urgency", x.next(), 2);
    }

    private static void frames() {
        E.says(0, "FRAMES: how many were sent.");
        HungStreams x = Check.built("1:1");
        E.due("none yet", x.told(8), 0);
        x.sends(5);
        E.due("tried, not sent", x.told(8), 0);
        x.readies(1, 150);
        x.sends(5);
        E.due("sent", x.told(8), 2);
    }

    private static void floors() {
        E.says(0, "FLOOR of THE ROOT and of each STREAM: 0 at first.");
        HungStreams x = Check.built("1:1 2:1 3:1 4:1 5:1 6:1 7:1 8:1 9:1 10:1 11:1 12:1");
        for (int s = 0; s <= 12; s++) {
            E.due("turn(" + s + ", 1)", x.turn(s, 1), 0);
        }
    }

    private static void hangs() {
        E.says(0, "A STREAM HANGS itself on p: PARENT becomes p, TURN the FLOOR of p.");
        HungStreams x = Check.built("1:1 2:1 3:1");
        x.readies(1, 300);
        x.sends(3);
        E.due("FLOOR of THE ROOT", x.turn(0, 1), 200 * UNIT);
        x.moves(3, 0, 1, 0);
        E.due("a lesser TURN becomes it", x.turn(3, 0), 200 * UNIT);
        x.moves(1, 0, 1, 0);
        E.due("a greater one, too", x.turn(1, 0), 200 * UNIT);
        x.moves(1, 2, 1, 0);
        E.due("PARENT", x.of(1, 0), 2);
        E.due("a FLOOR of 0", x.turn(1, 0), 0);
    }

    private static void alone() {
        E.says(0, "It comes, or is MOVED, ALONE: first all CHILDREN that p has then");
        HungStreams x = Check.built("5:1(1:2(2:3) 12:4) 7:1");
        E.due("comes", x.comes(6, 5, 9, 1), 2);
        E.shows("CHILDREN, not what is BELOW them", x, "5:1(6:9(1:2(2:3) 12:4)) 7:1");
        E.due("it had CHILDREN itself", x.moves(6, 0, 8, 1), 4);
        E.shows("they stay with it", x, "6:8(1:2(2:3) 5:1 7:1 12:4)");
        E.due("p has none", x.moves(1, 5, 1, 1), 1);
        E.shows("then it is as beside", x, "6:8(5:1(1:1(2:3)) 7:1 12:4)");
        x.readies(2, 300);
        x.sends(3);
        E.due("FLOOR of 1", x.turn(1, 1), 200 * UNIT / 3);
        x.moves(1, 6, 1, 1);
        E.due("TURN of 5: the FLOOR of what it hangs on then", x.turn(5, 0), 200 * UNIT / 3);
        E.due("TURN of 7", x.turn(7, 0), 200 * UNIT / 3);
        E.due("TURN of 12", x.turn(12, 0), 200 * UNIT / 3);
        E.due("its own TURN: the FLOOR of p", x.turn(1, 0), 200 * UNIT);
        E.due("PARENT of 1", x.of(1, 0), 6);
    }

    private static void aloneItself() {
        E.says(0, "(but it itself) HANG themselves on it, the least first; then it HANGS itself on p.");
        HungStreams x = Check.built("1:1 2:1 3:1");
        E.due("it is one of p's CHILDREN", x.moves(2, 0, 1, 1), 2);
        E.shows("the others hang on it", x, "2:1(1:1 3:1)");
        E.due("it is the only one", x.moves(2, 0, 5, 1), 2);
        E.shows("nothing but the WEIGHT", x, "2:5(1:1 3:1)");
        E.due("comes to none", new HungStreams().comes(1, 0, 1, 1), 0);
    }

    private static void movedBelow() {
        E.says(0, "A STREAM that is MOVED to p, p being BELOW it: first p HANGS itself on the PARENT that the STREAM has.");
        HungStreams x = Check.built("9:1(1:2(2:3(3:4(4:5)) 5:6) 6:7)");
        E.due("one of its CHILDREN", x.moves(1, 2, 8, 0), 1);
        E.shows("its own other CHILDREN stay, p's, too", x, "9:1(2:3(1:8(5:6) 3:4(4:5)) 6:7)");
        x.back();
        x.moves(1, 4, 8, 0);
        E.shows("deep below", x, "9:1(4:5(1:8(2:3(3:4) 5:6)) 6:7)");
        x.back();
        x.moves(9, 4, 8, 0);
        E.shows("its PARENT is THE ROOT", x, "4:5(9:8(1:2(2:3(3:4) 5:6) 6:7))");
        x.back();
        x.moves(4, 1, 8, 0);
        E.shows("above it: p stays", x, "9:1(1:2(2:3(3:4) 4:8 5:6) 6:7)");
        x.back();
        x.moves(1, 6, 8, 0);
        E.shows("beside it: p stays", x, "9:1(6:7(1:8(2:3(3:4(4:5)) 5:6)))");
        x.back();
        x.readies(4, 300);
        x.sends(3);
        x.moves(1, 3, 8, 0);
        E.due("TURN of p: the FLOOR of that PARENT", x.turn(3, 0), 200 * UNIT / 2);
        E.due("TURN of the STREAM: the FLOOR of p", x.turn(1, 0), 200 * UNIT / 5);
    }

    private static void movedBelowAlone() {
        E.says(0, "first all CHILDREN that p has then (but it itself)");
        HungStreams x = Check.built("9:1(1:2(2:3(3:4 4:5) 5:6) 6:7)");
        E.due("moves(1, 2, 8, 1)", x.moves(1, 2, 8, 1), 3);
        E.shows("p's CHILDREN hang on it beside its own", x, "9:1(2:3(1:8(3:4 4:5 5:6)) 6:7)");
        HungStreams y = Check.built("1:2(2:3)");
        E.due("moves(1, 2, 8, 1)", y.moves(1, 2, 8, 1), 0);
        E.shows("neither has others", y, "2:3(1:8)");
    }

    private static void closedReady() {
        E.says(0, "A STREAM that is CLOSED has READY 0.");
        HungStreams x = Check.built("1:1");
        x.readies(1, 9999);
        x.closes(1);
        E.due("READY", x.of(1, 2), 0);
        E.due("none more", x.readies(1, 1), NO);
        E.due("READY", x.of(1, 2), 0);
    }

    private static HungStreams aging(int keep) {
        HungStreams x = Check.built("1:1 2:1");
        x.settings(1, 10);
        x.settings(2, keep);
        x.readies(2, 900);
        x.closes(1);
        return x;
    }

    private static void goesByAge() {
        E.says(0, "It GOES, if it is CLOSED and AGE is KEEP or more");
        for (int keep : new int[] {1, 2, 50}) {
            HungStreams x = aging(keep);
            if (keep > 1) {
                x.sends(keep - 1);
            }
            E.due("AGE is 1 less than " + keep, x.of(1, 7), keep - 1);
            x.sends(1);
            E.due("AGE is " + keep, x.of(1, 7), BAD);
        }
        HungStreams y = aging(0);
        E.due("KEEP 0", y.of(1, 7), BAD);
        E.due("OPEN ones stay", y.all(0), 1 << 2);
        HungStreams z = aging(50);
        z.sends(9);
        z.settings(2, 7);
        E.due("AGE is more", z.of(1, 7), BAD);
    }

    private static void childrenOfWhatGoes() {
        E.says(0, "its CHILDREN, the least first, HANG themselves on its PARENT");
        HungStreams x = Check.built("1:4(2:4(3:2(5:1) 4:2) 6:1)");
        x.settings(2, 0);
        x.readies(6, 300);
        x.sends(3);
        x.closes(2);
        E.shows("its PARENT is a STREAM", x, "1:4(3:2(5:1) 4:2 6:1)");
        E.due("TURN", x.turn(4, 0), 200 * UNIT);
        x.closes(1);
        E.shows("its PARENT is THE ROOT", x, "3:1(5:1) 4:1 6:1");
        E.due("TURN", x.turn(3, 0), 200 * UNIT / 4);
        x.closes(4);
        E.shows("it has none", x, "3:1(5:1) 6:1");
    }

    private static void left(String call, String tree, String want) {
        HungStreams x = Check.built(tree);
        x.settings(2, 0);
        x.closes(1);
        E.shows(call, x, want);
    }

    private static void weightsLeft() {
        E.says(0, "WEIGHT becoming WEIGHT times that of what GOES, by the WEIGHTS of all its CHILDREN together "
            + "(as they were ahead), cut, 1 at least");
        left("as they were ahead: each 16 by 3", "1:16(2:1 3:1 4:1)", "2:5 3:5 4:5");
        left("cut behind the times: 35 and 77 by 16", "1:7(2:5 3:11)", "2:2 3:4");
        left("cut: 240 and 256 by 31", "1:16(2:15 3:16)", "2:7 3:8");
        left("1 at least: 1 by 2", "1:1(2:1 3:1)", "2:1 3:1");
        left("just 1: 2 by 2", "1:2(2:1 3:1)", "2:1 3:1");
        left("just 2: 4 by 2", "1:4(2:1 3:1)", "2:2 3:2");
        left("the only one has all", "1:16(2:1)", "2:16");
        left("the only one has all, though it had more", "1:1(2:16)", "2:1");
        HungStreams x = Check.built("5:6(1:1 12:2)");
        x.settings(2, 0);
        x.closes(5);
        E.shows("the first and the last", x, "1:2 12:4");
        left("what is deeper stays", "1:2(2:16(3:9))", "2:2(3:9)");
        left("what is beside stays", "1:2(2:16) 4:9", "2:2 4:9");
        left("eleven", "1:16(2:1 3:1 4:1 5:1 6:1 7:1 8:1 9:1 10:1 11:1 12:16)",
            "2:1 3:1 4:1 5:1 6:1 7:1 8:1 9:1 10:1 11:1 12:9");
    }

    private static void thereNoMore() {
        E.says(0, "it is there no more.");
        HungStreams x = Check.built("1:1(2:1)");
        x.settings(2, 0);
        x.closes(1);
        E.due("of(1, 0)", x.of(1, 0), BAD);
        E.due("all(0)", x.all(0), 1 << 2);
        E.due("closes(1)", x.closes(1), BAD);
        E.due("moves(2, 1, ..)", x.moves(2, 1, 1, 0), BAD);
        E.due("child(1, 0)", x.child(1, 0), BAD);
        E.due("turn(1, 1)", x.turn(1, 1), BAD);
        E.due("it can come again", x.comes(1, 2, 1, 0), 0);
    }

    private static void goesWhenClosed() {
        E.says(0, "This is looked at when it is CLOSED");
        HungStreams x = Check.built("1:1 2:1");
        x.settings(2, 0);
        E.due("KEEP 0", x.closes(1), 1);
        x.settings(2, 1);
        E.due("KEEP 1", x.closes(2), 1);
    }

    private static void goesWhenKeepChanges() {
        E.says(0, "when KEEP changes");
        HungStreams x = aging(50);
        x.sends(5);
        x.settings(2, 6);
        E.due("AGE is less", x.all(0), 6);
        x.settings(0, 5);
        x.settings(1, 5);
        x.settings(3, 1);
        E.due("another setting", x.all(0), 6);
        x.settings(2, 5);
        E.due("AGE is KEEP", x.all(0), 4);
    }

    private static void goesBehindEachFrame() {
        E.says(0, "and behind each FRAME");
        HungStreams x = Check.built("1:2(2:1 3:1) 4:2");
        x.settings(2, 1);
        x.settings(1, 10);
        x.readies(2, 500);
        x.readies(3, 500);
        x.readies(4, 500);
        x.closes(1);
        // Behind the first FRAME 2 and 3 hang on THE ROOT with TURN 0, as 4 does.
        E.due("sends(4)", x.sends(4), 4);
        E.shows("tree", x, "2:1 3:1 4:2");
        int[] sent = {20, 10, 10};
        for (int s = 2; s <= 4; s++) {
            E.due("SENT of " + s, x.of(s, 8), sent[s - 2]);
        }
        HungStreams y = aging(1);
        y.settings(0, 0);
        E.due("none is sent", y.sends(1), 0);
        E.due("so it stays", y.all(0), 6);
    }

    private static void goesLeastFirst() {
        E.says(0, "of several the least first, each as the tree is then.");
        HungStreams x = Check.built("3:15(1:8(4:1 5:2) 2:8)");
        x.closes(3);
        x.closes(1);
        x.settings(2, 0);
        E.shows("the lower one is the least: it leaves 2 and 5, then 30, 75, 120 by 15", x, "2:8 4:2 5:5");
        HungStreams y = Check.built("1:15(3:8(4:1 5:2) 2:8)");
        y.closes(3);
        y.closes(1);
        y.settings(2, 0);
        E.shows("the upper one is the least: 3 has 120 by 16, then leaves 7 and 14 by 3", y, "2:7 4:2 5:4");
        HungStreams z = Check.built("1:15(3:8(4:1 5:2) 2:8) 6:1");
        z.settings(2, 1);
        z.readies(6, 100);
        z.closes(3);
        z.closes(1);
        z.sends(1);
        E.shows("behind a FRAME, too", z, "2:7 4:2 5:4 6:1");
        HungStreams w = Check.built("1:1(12:1(2:1))");
        w.closes(1);
        w.closes(2);
        w.closes(12);
        w.settings(2, 0);
        E.shows("all of them", w, "");
    }
}
