/** Promises 17 to 23: type, clear, builds, shown, back, told, digest. */
public final class TextTest {
    private static final Check CHECK = new Check();

    private static void due(String call, long got, long want) {
        CHECK.due(call, got, want);
    }

    public static void main(String[] args) {
        typeAndClear();
        buildsGood();
        buildsFaults();
        buildsAnew();
        shownEach();
        backFive();
        backEach();
        whatLeavesNoState();
        toldEach();
        digestOfNew();
        digestByHand();
        CHECK.end();
    }

    private static void typeAndClear() {
        HungStreams x = new HungStreams();
        due("18 clear() of an empty one", x.clear(), 0);
        due("17 type(0)", x.type(0), 1);
        due("17 type(127)", x.type(127), 2);
        for (int c : new int[] {-1, 128, 255, Integer.MIN_VALUE, Integer.MAX_VALUE}) {
            due("17 type(" + c + ")", x.type(c), HungStreams.BAD);
        }
        for (int i = 3; i <= 120; i++) {
            due("17 type " + i, x.type(32), i);
        }
        due("17 the 121st", x.type(32), HungStreams.FULL);
        due("17 bad, though it is full", x.type(128), HungStreams.BAD);
        due("17 told(0)", x.told(0), 6);
        due("17 told(2)", x.told(2), 1);
        due("17 told(3)", x.told(3), 120);
        due("17 no state", x.told(9), 0);
        due("18 clear()", x.clear(), 120);
        due("18 told(3)", x.told(3), 0);
        due("17 type(49)", x.type(49), 1);
        due("18 no state", x.told(9), 0);
    }

    private static void good(String text, int count, String tree) {
        HungStreams x = new HungStreams();
        Check.typeAnew(x, text);
        due("19 '" + text + "'", x.builds(), count);
        CHECK.due("20 '" + text + "'", Check.shownWhole(x), tree);
        due("19 state of '" + text + "'", x.told(9), 1);
        due("19 the text stays", x.told(3), text.length());
    }

    private static void buildsGood() {
        good("", 0, "");
        good("   ", 0, "");
        good("12:16", 1, "12:16");
        good("01:09", 1, "1:9");
        good("3:1 2:2 1:3", 3, "1:3 2:2 3:1");
        good(" 1 : 2 ( 3 : 4 ) 5 : 6 ", 3, "1:2(3:4) 5:6");
        good("1:2(3:4)5:6(7:8)", 4, "1:2(3:4) 5:6(7:8)");
        good("1:1(2:1(3:1(4:1(5:1(6:1(7:1(8:1(9:1(10:1(11:1(12:1)))))))))))", 12,
            "1:1(2:1(3:1(4:1(5:1(6:1(7:1(8:1(9:1(10:1(11:1(12:1)))))))))))");
        good("12:16 11:16 10:16 9:16 8:16 7:16 6:16 5:16 4:16 3:16 2:16 1:16", 12,
            "1:16 2:16 3:16 4:16 5:16 6:16 7:16 8:16 9:16 10:16 11:16 12:16");
        good("5:1(4:2(3:3 2:4)1:5)6:6", 6, "5:1(1:5 4:2(2:4 3:3)) 6:6");
        good(" ".repeat(117) + "7:8", 1, "7:8");
    }

    private static void fault(String text, int place) {
        HungStreams x = Check.built("9:9");
        Check.typeAnew(x, text);
        due("19 fault of '" + text + "'", x.builds(), -10 - place);
        due("19 no state by '" + text + "'", x.told(9), 1);
        due("19 nothing counts by '" + text + "'", x.told(0) + x.told(1) + x.told(2), 0);
        CHECK.due("19 nothing changed by '" + text + "'", Check.shownWhole(x), "9:9");
    }

    private static void buildsFaults() {
        String[] tooEarly = {"1", "1 ", "1:", "1: ", "1:2(", "1:2( ", "1:2(3", "1:2(3:", "1:2(3:4", "1:2(3:4 ",
            "1:2(3:4(5:6)", "12", "1:1 2", "1:1 2:", "1:2(3:4(5:6) "};
        for (String text : tooEarly) {
            fault(text, text.length());
        }
        fault("0", 0);
        fault("13", 0);
        fault("00:1", 0);
        fault("13:1", 0);
        fault("99x", 0);
        fault(" 13 :1", 1);
        fault("123:1", 2);
        fault("001:1", 2);
        fault("1:0", 2);
        fault("1:17", 2);
        fault("1:00", 2);
        fault("1: 17(2:1)", 3);
        fault("1:123", 4);
        fault("1:016", 4);
        fault("1:1 1", 4);
        fault("1:1 01:2", 4);
        fault("1:1(1:2)", 4);
        fault("1:1(2:1)2:1", 8);
        fault("1:1 123", 6);
        fault("1:1 112", 6);
        fault("1:12:3", 4);
        fault("1:22:3", 2);
        fault("1 2:3", 2);
        fault("1 1", 2);
        fault("1::2", 2);
        fault("1(2:3)", 1);
        fault("1:(2:3)", 2);
        fault("1:1 6", 5);
        fault("1: 6 5", 6);
        fault("1:6 5(", 5);
        fault(":", 0);
        fault("(", 0);
        fault(")", 0);
        fault("1:1)", 3);
        fault("1:1()", 4);
        fault("1:1( )", 5);
        fault("1:1(2:1))", 8);
        fault("1:1(2:1())", 8);
        fault("1:1(2:1 3:1()", 12);
        fault("1:1(2:1)(3:1)", 8);
        fault("1:1((2:1))", 4);
        fault("1:1(2:1(3:1)(", 12);
        fault("1:1,2:1", 3);
        fault("1:1 x", 4);
        fault("1:1\t2:1", 3);
        fault("\0", 0);
        fault("1:\u007f", 2);
        fault("-1:1", 0);
        fault("1:1(2:1(3:1(4:1(5:1(6:1(7:1(8:1(9:1(10:1(11:1(12:1(", 51);
        fault("1:1(2:1(3:1(4:1(5:1(6:1(7:1(8:1(9:1(10:1(11:1(12:1(1", 51);
        fault(" ".repeat(119) + "1", 120);
        fault(" ".repeat(119) + "(", 119);
    }

    private static void buildsAnew() {
        HungStreams x = Check.built("1:2(2:3) 3:1(12:1)");
        x.readies(2, 900);
        x.sends(3);
        x.closes(3);
        Check.typeAnew(x, "2:5 3:7(1:2)");
        due("19 builds()", x.builds(), 3);
        CHECK.due("19 tree", Check.shownWhole(x), "2:5 3:7(1:2)");
        for (int s = 0; s <= 3; s++) {
            due("19 floor of " + s, x.turn(s, 1), 0);
        }
        int[] fresh = {0, 5, 0, 1000, 3, 0, 1, 0, 0, 0, 0, -1, 0, 0, 0, 0};
        for (int what = 0; what < fresh.length; what++) {
            due("19 of(2, " + what + ")", x.of(2, what), fresh[what]);
        }
        due("19 turn(2, 0)", x.turn(2, 0), 0);
        due("19 open again", x.of(3, 6), 1);
        due("19 frames stay", x.told(8), 3);
        due("19 pool stays", x.told(4), 9700);
        due("19 the last frame stays", x.all(6), 2);
        due("19 again", x.builds(), 3);
        // 2 was LIVE when it was looked at, but came since: it is FRESH, its TURN the floor.
        x.readies(3, 900);
        x.sends(4);
        x.readies(2, 900);
        x.sends(1);
        due("19 one that came since is fresh", x.turn(2, 0), 300 * 720720L / 7 + 100 * 720720L / 5);
    }

    private static void shownEach() {
        HungStreams x = Check.built("12:16(10:1 2:10) 1:9");
        String want = "1:9 12:16(2:10 10:1)";
        CHECK.due("20 shown", Check.shownWhole(x), want);
        due("20 the last", x.shown(want.length() - 1), ')');
        due("20 behind the last", x.shown(want.length()), HungStreams.NONE);
        due("20 far behind", x.shown(Integer.MAX_VALUE), HungStreams.NONE);
        due("20 far behind, 120", x.shown(120), HungStreams.NONE);
        due("20 shown(-1)", x.shown(-1), HungStreams.BAD);
        due("20 shown least", x.shown(Integer.MIN_VALUE), HungStreams.BAD);
        due("20 told(0)", x.told(0), 2);
        x.moves(12, 2, 3, 0);
        CHECK.due("20 another tree", Check.shownWhole(x), "1:9 2:10(12:3(10:1))");
    }

    private static void backFive() {
        HungStreams x = new HungStreams();
        due("21 none", x.back(), HungStreams.NO);
        due("21 told(1)", x.told(1), 1);
        for (int s = 1; s <= 8; s++) {
            x.comes(s, 0, s, 0);
            due("22 states", x.told(9), Math.min(s, 5));
        }
        for (int left = 4; left >= 0; left--) {
            due("21 back()", x.back(), left);
            due("21 streams", Integer.bitCount(x.all(0)), left + 3);
        }
        due("21 none", x.back(), HungStreams.NO);
        CHECK.due("21 older ones are lost", Check.shownWhole(x), "1:1 2:2 3:3");
        x.comes(9, 0, 1, 0);
        x.comes(10, 0, 1, 0);
        due("21 back()", x.back(), 1);
        x.comes(11, 0, 1, 0);
        CHECK.due("21 on from there", Check.shownWhole(x), "1:1 2:2 3:3 9:1 11:1");
        due("21 back()", x.back(), 1);
        due("21 back()", x.back(), 0);
        CHECK.due("21 back there", Check.shownWhole(x), "1:1 2:2 3:3");
    }

    private static HungStreams busy() {
        HungStreams x = Check.built("1:3(2:4 3:5 12:2) 4:6");
        x.readies(2, 900);
        x.readies(3, 900);
        x.readies(4, 150);
        x.closes(1);
        x.sends(3);
        // The sixth state: from here on their number stays 5.
        x.window(3, 800);
        return x;
    }

    // told(0) to told(3) and told(9) are no part of a STATE, so both sides must have them alike.
    private static void takenBack(String call, HungStreams x) {
        HungStreams same = busy();
        same.window(3, same.of(3, 3));
        same.back();
        x.back();
        due("21 taken back: " + call, x.digest(), same.digest());
        x.sends(20);
        same.sends(20);
        due("21 and on from there: " + call, x.digest(), same.digest());
    }

    private static void backEach() {
        HungStreams x = busy();
        x.comes(5, 1, 2, 1);
        takenBack("comes", x);
        x = busy();
        x.moves(1, 3, 2, 1);
        takenBack("moves", x);
        for (int what = 0; what <= 2; what++) {
            x = busy();
            x.sets(2, what, 1);
            takenBack("sets " + what, x);
        }
        x = busy();
        x.closes(2);
        takenBack("closes", x);
        x = busy();
        x.readies(4, 9);
        takenBack("readies", x);
        x = busy();
        x.window(2, 9);
        takenBack("window", x);
        for (int what = 0; what <= 3; what++) {
            x = busy();
            x.settings(what, 1);
            takenBack("settings " + what, x);
        }
        x = busy();
        x.sends(100);
        takenBack("sends", x);
        x = busy();
        x.builds();
        takenBack("builds", x);
    }

    // Each S call here changes nothing, and leaves a STATE all the same; the others leave none.
    private static void whatLeavesNoState() {
        HungStreams x = Check.built("1:1(2:1)");
        x.moves(2, 1, 1, 0);
        x.sets(1, 0, 1);
        due("22 states", x.told(9), 3);
        x.window(1, 1000);
        due("22 states", x.told(9), 4);
        x.back();
        x.back();
        x.settings(0, 10000);
        x.sends(1);
        due("22 states", x.told(9), 4);
        x.back();
        x.back();
        x.back();
        long before = x.digest();
        x.of(1, 1);
        x.turn(1, 1);
        x.child(1, 0);
        x.common(1, 2);
        x.next();
        x.share(1, 0);
        x.all(2);
        x.shown(1);
        x.told(9);
        x.digest();
        due("22 questions leave none", x.told(9), 1);
        due("23 questions change nothing", x.digest(), before);
        x.type(32);
        x.clear();
        due("22 the text leaves none", x.told(9), 1);
        x.back();
        due("21 the text is not taken back", x.told(3), 0);
    }

    private static void toldEach() {
        HungStreams x = Check.built("1:1");
        x.type('x');
        x.comes(1, 0, 1, 0);
        x.comes(1, 0, 0, 0);
        x.comes(2, 0, 0, 0);
        x.settings(0, 77);
        x.settings(1, 7);
        x.settings(2, 8);
        x.settings(3, 1);
        x.readies(1, 30);
        x.sends(2);
        int[] want = {2, 1, 0, 4, 63, 7, 8, 1, 2, 5};
        for (int what = 0; what < want.length; what++) {
            due("22 told(" + what + ")", x.told(what), want[what]);
        }
        x.back();
        int[] then = {2, 1, 0, 4, 77, 7, 8, 1, 0, 4};
        for (int what = 0; what < then.length; what++) {
            due("22 taken back: told(" + what + ")", x.told(what), then[what]);
        }
        for (int what : new int[] {-1, 10, Integer.MIN_VALUE, Integer.MAX_VALUE}) {
            due("22 told(" + what + ")", x.told(what), HungStreams.BAD);
        }
        due("22 told(0)", x.told(0), 6);
    }

    private static void digestOfNew() {
        long h = 2311;
        int[] told = {0, 0, 0, 0, 10000, 100, 10, 0, 0, 0};
        int[] all = {0, 0, 0, 0, 0, 0, -1};
        for (int v : told) {
            h = 31 * h + v;
        }
        for (int v : all) {
            h = 31 * h + v;
        }
        h = 31 * h + 0;
        h = 31 * h - 1;
        due("23 digest() of a new one", new HungStreams().digest(), h);
    }

    private static void digestByHand() {
        HungStreams x = Check.built("2:3(11:4) 7:1(12:1 1:5)");
        x.readies(11, 500);
        x.readies(7, 500);
        x.sends(3);
        x.told(-1);
        x.back();
        x.sends(4);
        long h = 2311;
        for (int what = 0; what <= 9; what++) {
            h = 31 * h + x.told(what);
        }
        for (int what = 0; what <= 6; what++) {
            h = 31 * h + x.all(what);
        }
        for (int s : new int[] {1, 2, 7, 11, 12}) {
            h = 31 * h + s;
            for (int what = 0; what <= 15; what++) {
                h = 31 * h + x.of(s, what);
            }
            h = 31 * h + x.turn(s, 0);
            h = 31 * h + x.turn(s, 1);
        }
        h = 31 * h + x.turn(0, 1);
        h = 31 * h + x.next();
        due("23 digest()", x.digest(), h);
    }
}
