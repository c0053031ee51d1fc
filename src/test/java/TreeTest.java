/** Promises 1 to 9: a new object, comes, moves, sets, closes, of, turn, child, common. */
public final class TreeTest {
    private static final Check CHECK = new Check();

    private static void due(String call, long got, long want) {
        CHECK.due(call, got, want);
    }

    private static void tree(String call, HungStreams x, String want) {
        CHECK.due(call, Check.shownWhole(x), want);
    }

    public static void main(String[] args) {
        newObject();
        comesBesideAndAlone();
        comesRefused();
        comesAgainAnew();
        movesBesideAndAlone();
        movesUnderWhatIsBelow();
        movesRefused();
        setsEach();
        closesAndGoes();
        closesSeveral();
        ofEach();
        turnAndFloor();
        childrenAndCommon();
        CHECK.end();
    }

    private static void newObject() {
        HungStreams x = new HungStreams();
        int[] told = {0, 0, 0, 0, 10000, 100, 10, 0, 0, 0};
        for (int what = 0; what < told.length; what++) {
            due("1 told(" + what + ")", x.told(what), told[what]);
        }
        int[] all = {0, 0, 0, 0, 0, 0, HungStreams.NONE};
        for (int what = 0; what < all.length; what++) {
            due("1 all(" + what + ")", x.all(what), all[what]);
        }
        due("1 turn(0, 1)", x.turn(0, 1), 0);
        due("1 child(0, 0)", x.child(0, 0), HungStreams.NONE);
        due("1 next()", x.next(), HungStreams.NONE);
        due("1 shown(0)", x.shown(0), HungStreams.NONE);
        due("1 of(1, 0)", x.of(1, 0), HungStreams.BAD);
    }

    private static void comesBesideAndAlone() {
        HungStreams x = new HungStreams();
        due("2 comes(5, 0, 16, 0)", x.comes(5, 0, 16, 0), 0);
        due("2 comes(12, 0, 1, 0)", x.comes(12, 0, 1, 0), 0);
        due("2 comes(1, 5, 2, 0)", x.comes(1, 5, 2, 0), 0);
        tree("2 beside", x, "5:16(1:2) 12:1");
        due("2 comes(3, 0, 7, 1)", x.comes(3, 0, 7, 1), 2);
        tree("2 alone", x, "3:7(5:16(1:2) 12:1)");
        due("2 comes(2, 1, 4, 1)", x.comes(2, 1, 4, 1), 0);
        tree("2 alone on one without children", x, "3:7(5:16(1:2(2:4)) 12:1)");
        due("2 told(9)", x.told(9), 5);
    }

    private static void comesRefused() {
        HungStreams x = new HungStreams();
        x.comes(4, 0, 1, 0);
        int[][] bad = {{0, 0, 1, 0}, {13, 0, 1, 0}, {-1, 0, 1, 0}, {1, 3, 1, 0}, {1, 13, 1, 0}, {1, -1, 1, 0},
            {1, 1, 1, 0}, {1, 0, 0, 0}, {1, 0, 17, 0}, {1, 0, 1, 2}, {1, 0, 1, -1}, {4, 0, 0, 0}, {4, 5, 1, 0},
            {Integer.MIN_VALUE, Integer.MAX_VALUE, Integer.MIN_VALUE, Integer.MAX_VALUE}};
        for (int i = 0; i < bad.length; i++) {
            due("2 bad " + i, x.comes(bad[i][0], bad[i][1], bad[i][2], bad[i][3]), HungStreams.BAD);
        }
        due("2 told(0)", x.told(0), bad.length);
        due("2 comes(4, 0, 1, 0)", x.comes(4, 0, 1, 0), HungStreams.NO);
        due("2 comes(4, 4, 1, 0)", x.comes(4, 4, 1, 0), HungStreams.NO);
        due("2 told(1)", x.told(1), 2);
        due("2 told(9)", x.told(9), 1);
        tree("2 nothing changed", x, "4:1");
    }

    // One that was there, sent, and has gone begins again with nothing of what it had.
    private static void comesAgainAnew() {
        HungStreams x = Check.built("1:1(2:1) 3:1 4:1");
        x.settings(2, 3);
        x.readies(1, 150);
        x.readies(2, 900);
        x.readies(4, 900);
        x.sets(1, 1, 7);
        x.sets(1, 2, 1);
        x.sends(7);
        due("2 floor of 1 was raised", x.turn(1, 1) > 0 ? 1 : 0, 1);
        x.readies(1, 150);
        x.moves(4, 0, 16, 0);
        x.sends(3);
        due("2 it waits", x.of(1, 9), 3);
        x.closes(1);
        x.sends(3);
        due("2 it is gone", x.of(1, 9), HungStreams.BAD);
        due("2 comes(1, 3, 9, 0)", x.comes(1, 3, 9, 0), 0);
        int[] fresh = {3, 9, 0, 1000, 3, 0, 1, 0, 0, 0, 0, -1, 0, 0, 0, 0};
        for (int what = 0; what < fresh.length; what++) {
            due("2 anew of(1, " + what + ")", x.of(1, what), fresh[what]);
        }
        due("2 anew floor", x.turn(1, 1), 0);
        due("2 anew turn", x.turn(1, 0), 0);
    }

    private static void movesBesideAndAlone() {
        HungStreams x = Check.built("1:1(2:2 3:3(4:4)) 5:5(6:6 7:7)");
        due("3 moves(3, 5, 9, 0)", x.moves(3, 5, 9, 0), 1);
        tree("3 beside", x, "1:1(2:2) 5:5(3:9(4:4) 6:6 7:7)");
        due("3 moves(4, 5, 8, 1)", x.moves(4, 5, 8, 1), 3);
        tree("3 alone", x, "1:1(2:2) 5:5(4:8(3:9 6:6 7:7))");
        due("3 moves(6, 4, 2, 1)", x.moves(6, 4, 2, 1), 2);
        tree("3 alone among its own siblings", x, "1:1(2:2) 5:5(4:8(6:2(3:9 7:7)))");
        due("3 moves(6, 0, 16, 0)", x.moves(6, 0, 16, 0), 2);
        tree("3 to the root", x, "1:1(2:2) 5:5(4:8) 6:16(3:9 7:7)");
        due("3 moves(5, 0, 3, 0)", x.moves(5, 0, 3, 0), 1);
        tree("3 where it is, with another weight", x, "1:1(2:2) 5:3(4:8) 6:16(3:9 7:7)");
    }

    private static void movesUnderWhatIsBelow() {
        HungStreams x = Check.built("9:1(1:2(2:3(3:4(4:5 5:6)) 6:7))");
        due("3 moves(1, 3, 8, 0)", x.moves(1, 3, 8, 0), 2);
        tree("3 under what was deep below it", x, "9:1(3:4(1:8(2:3 6:7) 4:5 5:6))");
        x.back();
        due("3 moves(1, 3, 8, 1)", x.moves(1, 3, 8, 1), 4);
        tree("3 the same alone", x, "9:1(3:4(1:8(2:3 4:5 5:6 6:7)))");
        HungStreams y = Check.built("1:2(2:3)");
        due("3 moves(1, 2, 4, 1)", y.moves(1, 2, 4, 1), 0);
        tree("3 under its only child", y, "2:3(1:4)");
    }

    private static void movesRefused() {
        HungStreams x = Check.built("1:1(2:2)");
        int[][] bad = {{0, 1, 1, 0}, {3, 1, 1, 0}, {13, 1, 1, 0}, {-1, 1, 1, 0}, {1, 3, 1, 0}, {1, 13, 1, 0},
            {1, -1, 1, 0}, {1, 1, 1, 0}, {2, 2, 1, 1}, {1, 0, 0, 0}, {1, 0, 17, 0}, {1, 0, 1, 2}, {1, 0, 1, -1}};
        for (int i = 0; i < bad.length; i++) {
            due("3 bad " + i, x.moves(bad[i][0], bad[i][1], bad[i][2], bad[i][3]), HungStreams.BAD);
        }
        due("3 told(0)", x.told(0), bad.length);
        due("3 told(9)", x.told(9), 1);
        tree("3 nothing changed", x, "1:1(2:2)");
        x.closes(2);
        due("3 a closed one is moved too", x.moves(2, 0, 5, 0), 0);
    }

    private static void setsEach() {
        HungStreams x = Check.built("7:4");
        int[][] good = {{0, 16, 4}, {0, 1, 16}, {1, 0, 3}, {1, 7, 0}, {2, 1, 0}, {2, 0, 1}, {2, 0, 0}};
        for (int[] g : good) {
            due("4 sets(7, " + g[0] + ", " + g[1] + ")", x.sets(7, g[0], g[1]), g[2]);
        }
        due("4 weight", x.of(7, 1), 1);
        due("4 urgency", x.of(7, 4), 7);
        due("4 stepwise", x.of(7, 5), 0);
        due("4 told(9)", x.told(9), 5);
        int[][] bad = {{7, 0, 0}, {7, 0, 17}, {7, 1, -1}, {7, 1, 8}, {7, 2, -1}, {7, 2, 2}, {7, 3, 1}, {7, -1, 1},
            {0, 0, 1}, {6, 0, 1}, {13, 0, 1}, {-7, 0, 1}, {7, Integer.MAX_VALUE, 1}, {7, Integer.MIN_VALUE, 1}};
        for (int i = 0; i < bad.length; i++) {
            due("4 bad " + i, x.sets(bad[i][0], bad[i][1], bad[i][2]), HungStreams.BAD);
        }
        due("4 told(0)", x.told(0), bad.length);
    }

    private static void closesAndGoes() {
        HungStreams x = Check.built("1:16(2:5(3:7 4:8(6:1) 7:1) 5:1)");
        x.readies(2, 77);
        x.readies(5, 900);
        due("5 closes(2)", x.closes(2), 7);
        due("5 ready of a closed one", x.of(2, 2), 0);
        due("5 open", x.of(2, 6), 0);
        due("5 closes(2) again", x.closes(2), HungStreams.NO);
        due("5 told(1)", x.told(1), 1);
        x.settings(2, 2);
        x.sends(1);
        due("5 age", x.of(2, 7), 1);
        due("5 age of an open one", x.of(3, 7), 0);
        due("5 still there", x.all(0), 254);
        x.sends(1);
        tree("5 weights left: 35/16, 40/16, 5/16 cut, 1 at least", x, "1:16(3:2 4:2(6:1) 5:1 7:1)");
        due("5 turn is the floor of what it hangs on", x.turn(3, 0), x.turn(1, 1));
        due("5 that floor was raised", x.turn(1, 1) > 0 ? 1 : 0, 1);
        for (int s : new int[] {0, 2, 13, -1}) {
            due("5 closes(" + s + ")", x.closes(s), HungStreams.BAD);
        }
        due("5 told(0)", x.told(0), 4);
        x.settings(2, 0);
        due("5 goes at once", x.closes(1), 5);
        tree("5 their weights: 2, 2, 1, 1 of 6, times 16", x, "3:5 4:5(6:1) 5:2 7:2");
    }

    private static void closesSeveral() {
        HungStreams x = Check.built("2:10(1:9(3:4 4:5))");
        x.closes(1);
        x.closes(2);
        due("5 both stay", x.all(0), 30);
        x.settings(2, 0);
        tree("5 the least first, each as the tree is then", x, "3:4 4:5");
        HungStreams y = Check.built("1:10(2:9(3:4 4:5) 5:1)");
        y.closes(2);
        y.closes(1);
        y.settings(2, 0);
        tree("5 the upper one is the lesser: 2 has 9, then 4 and 5 of 9", y, "3:4 4:5 5:1");
        HungStreams z = Check.built("1:1(2:9(3:4 4:5) 5:1)");
        z.closes(2);
        z.closes(1);
        z.settings(2, 0);
        tree("5 2 has 0 cut, so 1, then 3 and 4 too", z, "3:1 4:1 5:1");
        HungStreams w = Check.built("1:1 2:1");
        w.settings(2, 50);
        w.closes(1);
        w.readies(2, 900);
        w.settings(1, 10);
        w.sends(49);
        due("5 age 49", w.of(1, 7), 49);
        w.sends(1);
        due("5 gone at 50", w.of(1, 7), HungStreams.BAD);
        due("5 no frame, no age", Check.built("1:1").closes(1), 1);
        HungStreams v = Check.built("5:6(1:1 12:2) 7:1");
        v.readies(7, 900);
        v.closes(5);
        v.closes(12);
        v.sends(9);
        due("5 age of 12", v.of(12, 7), 9);
        v.settings(2, 50);
        v.sends(0);
        v.back();
        due("5 age of 12 taken back", v.of(12, 7), 9);
        v.moves(12, 5, 3, 0);
        v.settings(2, 9);
        tree("5 12 goes too, but 5 ahead of it", v, "1:1 7:1");
        HungStreams u = Check.built("5:6(1:1 12:2) 7:1");
        u.settings(2, 0);
        u.closes(5);
        tree("5 the first and the last get their weights", u, "1:2 7:1 12:4");
    }

    private static void ofEach() {
        HungStreams x = Check.built("1:2(2:3(3:4 4:5))");
        x.readies(3, 500);
        x.window(3, 300);
        x.sets(3, 1, 6);
        x.sets(3, 2, 1);
        x.readies(4, 5);
        x.sends(3);
        int[] three = {2, 4, 300, 100, 6, 1, 1, 0, 200, 0, 1, 3, 0, 0, 1, 1};
        for (int what = 0; what < three.length; what++) {
            due("6 of(3, " + what + ")", x.of(3, what), three[what]);
        }
        int[] two = {1, 3, 0, 1000, 3, 0, 1, 0, 0, 0, 0, -1, 2, 2, 0, 1};
        for (int what = 0; what < two.length; what++) {
            due("6 of(2, " + what + ")", x.of(2, what), two[what]);
        }
        due("6 below: the first and the last", Check.built("5:1(1:1(12:1))").of(5, 13), 2);
        due("6 below: all", Check.built("12:1(1:1 2:1 3:1 4:1 5:1(6:1 7:1 8:1 9:1 10:1 11:1))").of(12, 13), 11);
        due("6 of(1, 12)", x.of(1, 12), 1);
        due("6 of(1, 13)", x.of(1, 13), 3);
        due("6 of(4, 14)", x.of(4, 14), 0);
        due("6 of(4, 15)", x.of(4, 15), 0);
        x.window(3, 0);
        due("6 window 0, of(3, 14)", x.of(3, 14), 0);
        due("6 window 0, of(1, 15)", x.of(1, 15), 0);
        int[][] bad = {{0, 0}, {5, 0}, {13, 0}, {-1, 0}, {1, 16}, {1, -1}, {Integer.MAX_VALUE, Integer.MIN_VALUE}};
        for (int i = 0; i < bad.length; i++) {
            due("6 bad " + i, x.of(bad[i][0], bad[i][1]), HungStreams.BAD);
        }
        due("6 told(0)", x.told(0), bad.length);
    }

    private static void turnAndFloor() {
        HungStreams x = Check.built("1:2(2:3)");
        x.readies(2, 900);
        x.sends(2);
        due("7 turn(1, 0)", x.turn(1, 0), 200 * 720720L / 2);
        due("7 turn(2, 0)", x.turn(2, 0), 200 * 720720L / 3);
        due("7 turn(0, 1)", x.turn(0, 1), 100 * 720720L / 2);
        due("7 turn(1, 1)", x.turn(1, 1), 100 * 720720L / 3);
        due("7 turn(2, 1)", x.turn(2, 1), 0);
        x.comes(3, 1, 1, 0);
        due("7 who comes late begins at the floor", x.turn(3, 0), 100 * 720720L / 3);
        x.comes(4, 0, 1, 1);
        due("7 what hangs on a new one begins at its floor", x.turn(1, 0), 0);
        due("7 the new one at the root's", x.turn(4, 0), 100 * 720720L / 2);
        x.moves(4, 2, 1, 0);
        due("7 what was below begins at the floor above", x.turn(2, 0), 100 * 720720L / 2);
        due("7 what went under it begins at its floor", x.turn(4, 0), 0);
        long[][] bad = {{0, 0}, {5, 0}, {5, 1}, {13, 0}, {13, 1}, {-1, 0}, {-1, 1}, {1, 2}, {1, -1}, {0, 2}};
        for (int i = 0; i < bad.length; i++) {
            due("7 bad " + i, x.turn((int) bad[i][0], (int) bad[i][1]), -2);
        }
        due("7 told(0)", x.told(0), bad.length);
    }

    private static void childrenAndCommon() {
        HungStreams x = Check.built("9:1 2:1(12:1(5:1 3:1) 4:1) 1:1");
        int[][] children = {{0, 0, 1}, {0, 1, 2}, {0, 2, 9}, {0, 3, -1}, {2, 0, 4}, {2, 1, 12}, {2, 2, -1}, {12, 0, 3},
            {12, 1, 5}, {9, 0, -1}, {0, Integer.MAX_VALUE, -1}};
        for (int[] c : children) {
            due("8 child(" + c[0] + ", " + c[1] + ")", x.child(c[0], c[1]), c[2]);
        }
        int[][] badChildren = {{0, -1}, {2, -1}, {7, 0}, {13, 0}, {-1, 0}, {7, -1}, {0, Integer.MIN_VALUE}};
        for (int[] c : badChildren) {
            due("8 child(" + c[0] + ", " + c[1] + ")", x.child(c[0], c[1]), HungStreams.BAD);
        }
        due("8 told(0)", x.told(0), badChildren.length);
        int[][] commons = {{5, 3, 12}, {5, 4, 2}, {4, 5, 2}, {5, 5, 5}, {12, 5, 12}, {5, 12, 12}, {5, 2, 2}, {1, 9, 0},
            {5, 9, 0}, {1, 1, 1}};
        for (int[] c : commons) {
            due("9 common(" + c[0] + ", " + c[1] + ")", x.common(c[0], c[1]), c[2]);
        }
        int[][] badCommons = {{0, 1}, {1, 0}, {0, 0}, {7, 1}, {1, 7}, {13, 1}, {1, 13}, {-1, 1}, {1, -1}};
        for (int[] c : badCommons) {
            due("9 common(" + c[0] + ", " + c[1] + ")", x.common(c[0], c[1]), HungStreams.BAD);
        }
        due("9 told(0)", x.told(0), badChildren.length + badCommons.length);
    }
}
