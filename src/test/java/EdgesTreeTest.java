/** Promises 1 to 9, sentence by sentence: at their bounds, just inside and just outside. */
public final class EdgesTreeTest {
    private static final long UNIT = Edges.UNIT;
    private static final int BAD = HungStreams.BAD, NONE = HungStreams.NONE;
    private static final int MIN = Integer.MIN_VALUE, MAX = Integer.MAX_VALUE;
    private static final Edges E = new Edges();

    public static void main(String[] args) {
        newObject();
        comes();
        comesState();
        comesBadParent();
        comesBadAlone();
        comesThere();
        moves();
        movesState();
        movesNotThere();
        movesToItself();
        movesBadAlone();
        sets();
        setsState();
        setsBad();
        closes();
        closesState();
        closesBad();
        closesClosed();
        ofParentToStepwise();
        ofOpenToLast();
        ofChildrenToLive();
        ofNotThere();
        turns();
        turnsBad();
        children();
        notSoMany();
        childrenBad();
        commons();
        commonRoot();
        commonBad();
        E.end();
    }

    private static void newObject() {
        E.says(1, "As told; THE ROOT alone.");
        HungStreams x = new HungStreams();
        int[] told = {0, 0, 0, 0, 10000, 100, 10, 0, 0, 0};
        for (int what = 0; what < told.length; what++) {
            E.due("told(" + what + ")", x.told(what), told[what]);
        }
        int[] all = {0, 0, 0, 0, 0, 0, NONE};
        for (int what = 0; what < all.length; what++) {
            E.due("all(" + what + ")", x.all(what), all[what]);
        }
        E.due("child(0, 0)", x.child(0, 0), NONE);
        E.due("turn(0, 1)", x.turn(0, 1), 0);
        E.due("next()", x.next(), NONE);
        E.due("shown(0)", x.shown(0), NONE);
        E.due("clear()", x.clear(), 0);
        E.due("back()", x.back(), HungStreams.NO);
    }

    private static void comes() {
        E.says(2, "STREAM s comes, HANGS itself on p (0 or a STREAM), ALONE if alone is 1: how many CHILDREN it has then.");
        HungStreams x = new HungStreams();
        E.due("the least s, on 0", x.comes(1, 0, 1, 0), 0);
        E.due("the greatest s, on a STREAM", x.comes(12, 1, 16, 0), 0);
        E.due("beside, though p has CHILDREN", x.comes(5, 1, 3, 0), 0);
        E.due("ALONE", x.comes(6, 1, 3, 1), 2);
        E.due("ALONE on 0", x.comes(7, 0, 3, 1), 1);
        E.due("ALONE on one that has none", x.comes(8, 12, 3, 1), 0);
        E.shows("tree", x, "7:3(1:1(6:3(5:3 12:16(8:3))))");
        E.due("on one that is CLOSED", x.closes(8), 6);
        E.due("on one that is CLOSED", x.comes(2, 8, 1, 0), 0);
    }

    private static void comesState() {
        E.says(2, "S.");
        E.leavesState("beside", x -> x.comes(12 - 1, 0, 1, 0));
        E.leavesState("ALONE", x -> x.comes(6, 1, 16, 1));
    }

    private static void comesBadParent() {
        E.says(2, "BAD: p is not there, too");
        E.bad("p has not come", x -> x.comes(6, 7, 1, 0));
        E.bad("p is s", x -> x.comes(6, 6, 1, 0));
        E.bad("p below 0", x -> x.comes(6, -1, 1, 0));
        E.bad("p above 12", x -> x.comes(6, 13, 1, 0));
        E.bad("p is 32 more than one there", x -> x.comes(6, 33, 1, 0));
        E.bad("p the least", x -> x.comes(6, MIN, 1, 0));
        E.bad("p the greatest", x -> x.comes(6, MAX, 1, 0));
        E.bad("s below 1", x -> x.comes(0, 0, 1, 0));
        E.bad("s above 12", x -> x.comes(13, 0, 1, 0));
        E.bad("s the least", x -> x.comes(MIN, 0, 1, 0));
        E.bad("s the greatest", x -> x.comes(MAX, 0, 1, 0));
        E.bad("w below 1", x -> x.comes(6, 0, 0, 0));
        E.bad("w above 16", x -> x.comes(6, 0, 17, 0));
        E.bad("w the least", x -> x.comes(6, 0, MIN, 0));
        E.bad("w the greatest", x -> x.comes(6, 0, MAX, 0));
    }

    private static void comesBadAlone() {
        E.says(2, "alone is none of 0, 1, too");
        E.bad("2", x -> x.comes(6, 0, 1, 2));
        E.bad("-1", x -> x.comes(6, 0, 1, -1));
        E.bad("the least", x -> x.comes(6, 0, 1, MIN));
        E.bad("the greatest", x -> x.comes(6, 0, 1, MAX));
    }

    private static void comesThere() {
        E.says(2, "NO: s is there.");
        E.no("where it is", x -> x.comes(1, 0, 3, 0));
        E.no("elsewhere", x -> x.comes(12, 4, 1, 1));
        E.no("on itself", x -> x.comes(4, 4, 1, 0));
        E.no("it is CLOSED", x -> x.comes(3, 0, 1, 0));
    }

    private static void moves() {
        E.says(3, "STREAM s is MOVED to p, WEIGHT w, ALONE if alone is 1: how many CHILDREN it has then.");
        HungStreams x = Check.built("1:1(12:2(3:3)) 4:4(5:5)");
        E.due("beside", x.moves(12, 4, 16, 0), 1);
        E.shows("WEIGHT", x, "1:1 4:4(5:5 12:16(3:3))");
        E.due("ALONE", x.moves(1, 4, 1, 1), 2);
        E.shows("tree", x, "4:4(1:1(5:5 12:16(3:3)))");
        E.due("to 0", x.moves(12, 0, 2, 0), 1);
        E.due("to 0, ALONE", x.moves(12, 0, 3, 1), 2);
        E.shows("tree", x, "12:3(3:3 4:4(1:1(5:5)))");
        E.due("where it is", x.moves(5, 1, 6, 0), 0);
        E.shows("WEIGHT alone", x, "12:3(3:3 4:4(1:1(5:6)))");
        E.due("to what is BELOW it", x.moves(12, 5, 7, 0), 2);
        E.shows("tree", x, "5:6(12:7(3:3 4:4(1:1)))");
        x.closes(4);
        E.due("a CLOSED one", x.moves(4, 3, 9, 0), 1);
        E.due("to a CLOSED one", x.moves(5, 4, 9, 0), 1);
        E.shows("tree", x, "4:9(1:1 5:9(12:7(3:3)))");
    }

    private static void movesState() {
        E.says(3, "S.");
        E.leavesState("beside", x -> x.moves(12, 4, 1, 0));
        E.leavesState("to what is BELOW it, ALONE", x -> x.moves(1, 2, 16, 1));
    }

    private static void movesNotThere() {
        E.says(3, "BAD: s or p is not there, too");
        E.bad("s has not come", x -> x.moves(6, 0, 1, 0));
        E.bad("s is 0", x -> x.moves(0, 1, 1, 0));
        E.bad("s below 0", x -> x.moves(-1, 1, 1, 0));
        E.bad("s above 12", x -> x.moves(13, 1, 1, 0));
        E.bad("s the least", x -> x.moves(MIN, 1, 1, 0));
        E.bad("s the greatest", x -> x.moves(MAX, 1, 1, 0));
        E.bad("p has not come", x -> x.moves(4, 6, 1, 0));
        E.bad("p below 0", x -> x.moves(4, -1, 1, 0));
        E.bad("p above 12", x -> x.moves(4, 13, 1, 0));
        E.bad("p the least", x -> x.moves(4, MIN, 1, 0));
        E.bad("p the greatest", x -> x.moves(4, MAX, 1, 0));
        E.bad("w below 1", x -> x.moves(4, 1, 0, 0));
        E.bad("w above 16", x -> x.moves(4, 1, 17, 0));
    }

    private static void movesToItself() {
        E.says(3, "p is s");
        E.bad("on THE ROOT", x -> x.moves(4, 4, 1, 0));
        E.bad("deeper, ALONE", x -> x.moves(2, 2, 1, 1));
    }

    private static void movesBadAlone() {
        E.says(3, "alone is none of 0, 1.");
        E.bad("2", x -> x.moves(4, 1, 1, 2));
        E.bad("-1", x -> x.moves(4, 1, 1, -1));
        E.bad("the least", x -> x.moves(4, 1, 1, MIN));
        E.bad("the greatest", x -> x.moves(4, 1, 1, MAX));
    }

    private static void sets() {
        E.says(4, "WEIGHT of s (what 0), URGENCY (1), STEPWISE (2) becomes v: what it was.");
        HungStreams x = Check.built("12:5 1:6");
        int[][] calls = {{0, 16, 5}, {0, 1, 16}, {0, 1, 1}, {1, 0, 3}, {1, 7, 0}, {2, 1, 0}, {2, 1, 1}, {2, 0, 1}};
        for (int[] c : calls) {
            E.due("sets(12, " + c[0] + ", " + c[1] + ")", x.sets(12, c[0], c[1]), c[2]);
        }
        E.due("WEIGHT", x.of(12, 1), 1);
        E.due("URGENCY", x.of(12, 4), 7);
        E.due("STEPWISE", x.of(12, 5), 0);
        E.due("no other STREAM's", x.of(1, 1) + x.of(1, 4) + x.of(1, 5), 6 + 3);
        x.closes(1);
        E.due("a CLOSED one's", x.sets(1, 0, 2), 6);
    }

    private static void setsState() {
        E.says(4, "S.");
        E.leavesState("WEIGHT", x -> x.sets(2, 0, 16));
        E.leavesState("URGENCY", x -> x.sets(2, 1, 0));
        E.leavesState("STEPWISE", x -> x.sets(2, 2, 1));
    }

    private static void setsBad() {
        E.says(4, "BAD.");
        int[][] bad = {{2, 0, 0}, {2, 0, 17}, {2, 0, MIN}, {2, 0, MAX}, {2, 1, -1}, {2, 1, 8}, {2, 1, MIN}, {2, 1, MAX},
            {2, 2, -1}, {2, 2, 2}, {2, 2, MIN}, {2, 2, MAX}, {2, -1, 1}, {2, 3, 1}, {2, MIN, 1}, {2, MAX, 1},
            {0, 0, 1}, {6, 0, 1}, {13, 0, 1}, {-1, 0, 1}, {MIN, 0, 1}, {MAX, 0, 1}};
        for (int[] b : bad) {
            E.bad("sets(" + b[0] + ", " + b[1] + ", " + b[2] + ")", x -> x.sets(b[0], b[1], b[2]));
        }
    }

    private static void closes() {
        E.says(5, "s is CLOSED: how many STREAMS are there then.");
        HungStreams x = Check.built("1:1(12:1) 2:1");
        E.due("it stays", x.closes(12), 3);
        E.due("CLOSED", x.of(12, 6), 0);
        x.settings(2, 0);
        E.due("the others stay", x.all(0), 6);
        E.due("it GOES", x.closes(1), 1);
        E.due("the last one", x.closes(2), 0);
    }

    private static void closesState() {
        E.says(5, "S.");
        E.leavesState("it stays", x -> x.closes(2));
        HungStreams x = Check.built("1:3(2:2)");
        x.readies(1, 50);
        x.settings(2, 0);
        x.closes(1);
        x.back();
        E.shows("it GOES, and is back", x, "1:3(2:2)");
        E.due("READY is back", x.of(1, 2), 50);
        E.due("OPEN again", x.of(1, 6), 1);
    }

    private static void closesBad() {
        E.says(5, "BAD");
        for (int s : new int[] {0, 6, 13, -1, 33, MIN, MAX}) {
            E.bad("closes(" + s + ")", x -> x.closes(s));
        }
    }

    private static void closesClosed() {
        E.says(5, "NO: it is CLOSED.");
        E.no("closes(3)", x -> x.closes(3));
        HungStreams x = Check.built("1:1");
        x.settings(2, 0);
        x.closes(1);
        E.due("it has gone", x.closes(1), BAD);
    }

    /** By weights 7 and 2 the order is 1, 6, 1, 1, 1, 6, then 4 by 1's share; 5 is CLOSED. */
    private static HungStreams asked() {
        HungStreams x = Check.built("1:7(2:6(3:5(4:4))) 5:3 6:2");
        x.sets(1, 1, 5);
        x.sets(1, 2, 1);
        x.readies(1, 400);
        x.readies(6, 400);
        x.readies(4, 9);
        x.closes(5);
        x.sends(7);
        return x;
    }

    private static void ofParentToStepwise() {
        E.says(6, "PARENT of s (what 0), WEIGHT (1), READY (2), WINDOW (3), URGENCY (4), STEPWISE (5)");
        HungStreams x = asked();
        int[] one = {0, 7, 0, 600, 5, 1};
        int[] four = {3, 4, 0, 991, 3, 0};
        int[] six = {0, 2, 200, 800, 3, 0};
        for (int what = 0; what <= 5; what++) {
            E.due("of(1, " + what + ")", x.of(1, what), one[what]);
            E.due("of(4, " + what + ")", x.of(4, what), four[what]);
            E.due("of(6, " + what + ")", x.of(6, what), six[what]);
        }
    }

    private static void ofOpenToLast() {
        E.says(6, "whether it is OPEN (6), AGE (7), SENT (8), WAIT (9), LONGEST (10), LAST (11)");
        HungStreams x = asked();
        int[][] due = {{1, 0, 400, 0, 1, 5}, {1, 0, 9, 0, 6, 7}, {0, 7, 0, 0, 0, NONE}, {1, 0, 200, 1, 3, 6}};
        int[] streams = {1, 4, 5, 6};
        for (int i = 0; i < streams.length; i++) {
            for (int what = 6; what <= 11; what++) {
                E.due("of(" + streams[i] + ", " + what + ")", x.of(streams[i], what), due[i][what - 6]);
            }
        }
    }

    private static void ofChildrenToLive() {
        E.says(6, "how many CHILDREN (12), how many are BELOW (13), whether it CAN (14), is LIVE now (15).");
        HungStreams x = asked();
        x.readies(3, 1);
        int[][] due = {{1, 3, 0, 1}, {1, 2, 0, 1}, {1, 1, 1, 1}, {0, 0, 0, 0}, {0, 0, 0, 0}, {0, 0, 1, 1}};
        for (int s = 1; s <= 6; s++) {
            for (int what = 12; what <= 15; what++) {
                E.due("of(" + s + ", " + what + ")", x.of(s, what), due[s - 1][what - 12]);
            }
        }
    }

    private static void ofNotThere() {
        E.says(6, "BAD: s is not there (0 is no STREAM).");
        for (int what = 0; what <= 15; what++) {
            int asks = what;
            E.bad("of(0, " + what + ")", x -> x.of(0, asks));
        }
        for (int s : new int[] {6, 13, -1, 33, MIN, MAX}) {
            E.bad("of(" + s + ", 0)", x -> x.of(s, 0));
        }
        for (int what : new int[] {-1, 16, MIN, MAX}) {
            E.bad("of(1, " + what + ")", x -> x.of(1, what));
        }
        E.asks("of(12, 15)", x -> x.of(12, 15), 0);
    }

    private static void turns() {
        E.says(7, "TURN of s (what 0), its FLOOR (1; s 0: THE ROOT's).");
        HungStreams x = Check.built("1:2(12:3)");
        x.readies(12, 300);
        x.sends(3);
        E.due("turn(1, 0)", x.turn(1, 0), 300 * UNIT / 2);
        E.due("turn(12, 0)", x.turn(12, 0), 300 * UNIT / 3);
        E.due("turn(0, 1)", x.turn(0, 1), 200 * UNIT / 2);
        E.due("turn(1, 1)", x.turn(1, 1), 200 * UNIT / 3);
        E.due("turn(12, 1)", x.turn(12, 1), 0);
    }

    private static void turnsBad() {
        E.says(7, "BAD: -2 (TURN of 0, too).");
        E.bad("turn(0, 0)", x -> x.turn(0, 0));
        int[][] bad = {{6, 0}, {6, 1}, {13, 0}, {13, 1}, {-1, 0}, {-1, 1}, {MIN, 0}, {MIN, 1}, {MAX, 0}, {MAX, 1},
            {1, -1}, {1, 2}, {0, -1}, {0, 2}, {1, MIN}, {1, MAX}};
        for (int[] b : bad) {
            E.bad("turn(" + b[0] + ", " + b[1] + ")", x -> x.turn(b[0], b[1]));
        }
    }

    private static void children() {
        E.says(8, "The i-th CHILD of s (0: THE ROOT), the least 0");
        HungStreams x = Check.built("12:1(9:1 2:1 11:1) 7:1 1:1");
        int[][] due = {{0, 0, 1}, {0, 1, 7}, {0, 2, 12}, {12, 0, 2}, {12, 1, 9}, {12, 2, 11}};
        for (int[] d : due) {
            E.due("child(" + d[0] + ", " + d[1] + ")", x.child(d[0], d[1]), d[2]);
        }
        HungStreams y = Check.built("12:1 11:1 10:1 9:1 8:1 7:1 6:1 5:1 4:1 3:1 2:1 1:1");
        E.due("the twelfth", y.child(0, 11), 12);
    }

    private static void notSoMany() {
        E.says(8, "NONE: not so many.");
        E.asks("THE ROOT's", x -> x.child(0, 2), NONE);
        E.asks("a STREAM's", x -> x.child(1, 3), NONE);
        E.asks("of one that has none", x -> x.child(4, 0), NONE);
        E.asks("i the greatest", x -> x.child(0, MAX), NONE);
        E.due("a new one's", new HungStreams().child(0, 0), NONE);
        E.due("twelve", Check.built("12:1 11:1 10:1 9:1 8:1 7:1 6:1 5:1 4:1 3:1 2:1 1:1").child(0, 12), NONE);
    }

    private static void childrenBad() {
        E.says(8, "BAD: i below 0, too.");
        int[][] bad = {{0, -1}, {1, -1}, {0, MIN}, {6, 0}, {13, 0}, {-1, 0}, {MIN, 0}, {MAX, 0}, {6, -1}};
        for (int[] b : bad) {
            E.bad("child(" + b[0] + ", " + b[1] + ")", x -> x.child(b[0], b[1]));
        }
    }

    private static void commons() {
        E.says(9, "The deepest STREAM that both s and t are or are BELOW");
        HungStreams x = Check.built("12:1(1:1(2:1(3:1) 4:1) 5:1)");
        int[][] due = {{3, 4, 1}, {4, 3, 1}, {3, 5, 12}, {3, 2, 2}, {2, 3, 2}, {3, 3, 3}, {12, 12, 12}, {12, 3, 12},
            {3, 12, 12}};
        for (int[] d : due) {
            E.due("common(" + d[0] + ", " + d[1] + ")", x.common(d[0], d[1]), d[2]);
        }
    }

    private static void commonRoot() {
        E.says(9, "0: THE ROOT alone.");
        HungStreams x = Check.built("1:1(2:1(3:1)) 12:1(11:1)");
        int[][] due = {{1, 12}, {12, 1}, {3, 11}, {11, 3}, {1, 11}};
        for (int[] d : due) {
            E.due("common(" + d[0] + ", " + d[1] + ")", x.common(d[0], d[1]), 0);
        }
    }

    private static void commonBad() {
        E.says(9, "BAD.");
        int[][] bad = {{0, 1}, {1, 0}, {0, 0}, {6, 1}, {1, 6}, {6, 6}, {13, 1}, {1, 13}, {-1, 1}, {1, -1}, {MIN, 1},
            {1, MIN}, {MAX, 1}, {1, MAX}};
        for (int[] b : bad) {
            E.bad("common(" + b[0] + ", " + b[1] + ")", x -> x.common(b[0], b[1]));
        }
    }
}
