import java.math.BigInteger;
import java.util.ArrayList;
import java.util.List;

/** Promises 17 to 23, sentence by sentence: at their bounds, just inside and just outside. */
public final class EdgesTextsTest {
    private static final int BAD = HungStreams.BAD, NO = HungStreams.NO, FULL = HungStreams.FULL, NONE = HungStreams.NONE;
    private static final int MIN = Integer.MIN_VALUE, MAX = Integer.MAX_VALUE;
    private static final Edges E = new Edges();

    public static void main(String[] args) {
        type();
        typeBad();
        typeFull();
        clear();
        buildsAllGone();
        buildsTheSameAnew();
        buildsFloors();
        buildsFromTheLeft();
        buildsTextStays();
        buildsHowMany();
        buildsState();
        buildsFault();
        shown();
        shownFromTheLeast();
        shownNumbers();
        shownBlanks();
        shownNone();
        shownBad();
        back();
        backNone();
        toldRefused();
        toldBytes();
        toldSettings();
        toldFrames();
        toldStates();
        toldBad();
        digestBegins();
        digestValues();
        digestStreams();
        digestWrapsAround();
        E.end();
    }

    private static void type() {
        E.says(17, "A byte (0 .. 127) comes behind THE TEXT: how many it has.");
        HungStreams x = new HungStreams();
        E.due("least", x.type(0), 1);
        E.due("most", x.type(127), 2);
        x.clear();
        for (int c = 0; c < 120; c++) {
            E.due("type(" + c + ")", x.type(c), c + 1);
        }
        HungStreams y = Check.built("1:2");
        y.type('(');
        y.type('3');
        y.type(':');
        y.type('4');
        y.type(')');
        E.due("behind what it has", y.builds(), 2);
        E.shows("tree", y, "1:2(3:4)");
    }

    private static void typeBad() {
        E.says(17, "BAD");
        for (int c : new int[] {-1, 128, 255, 256 + '1', MIN, MAX}) {
            E.bad("type(" + c + ")", x -> x.type(c));
        }
    }

    private static void typeFull() {
        E.says(17, "FULL: 120.");
        HungStreams x = new HungStreams();
        for (int i = 1; i <= 120; i++) {
            E.due("byte " + i, x.type(' '), i);
        }
        E.due("byte 121", x.type(' '), FULL);
        E.due("again", x.type(0), FULL);
        E.due("told(2)", x.told(2), 2);
        E.due("told(3)", x.told(3), 120);
        E.refused("nothing comes", Edges::busyWithFullText, y -> y.type('x'), FULL);
        E.refused("BAD is ahead", Edges::busyWithFullText, y -> y.type(128), BAD);
        x.clear();
        E.due("empty again", x.type(' '), 1);
    }

    private static void clear() {
        E.says(18, "THE TEXT is empty: how many it had.");
        HungStreams x = new HungStreams();
        E.due("an empty one", x.clear(), 0);
        x.type('1');
        E.due("one byte", x.clear(), 1);
        E.due("again", x.clear(), 0);
        E.due("builds()", x.builds(), 0);
        Check.typeAnew(x, " ".repeat(120));
        E.due("a full one", x.clear(), 120);
        E.due("told(3)", x.told(3), 0);
        E.due("clear() leaves no STATE", x.told(9), 1);
    }

    private static void buildsAllGone() {
        E.says(19, "All STREAMS are there no more");
        HungStreams x = Check.built("1:1(12:1) 2:1");
        x.closes(2);
        Check.typeAnew(x, "3:3");
        x.builds();
        E.due("others come", x.all(0), 8);
        Check.typeAnew(x, "");
        x.builds();
        E.due("none comes", x.all(0), 0);
    }

    // 1 has sent and is CLOSED, 2 has sent and is READY, 3 waits.
    private static void buildsTheSameAnew() {
        E.says(19, "All STREAMS are there no more, FLOORS are 0; those of THE TEXT (which stays) come");
        HungStreams x = Check.built("1:5 2:5 3:5");
        x.settings(3, 1);
        for (int s = 1; s <= 3; s++) {
            x.sets(s, 1, s == 3 ? 7 : 1);
            x.sets(s, 2, 1);
            x.readies(s, 900);
        }
        x.sends(5);
        x.closes(1);
        x.sends(2);
        E.due("AGE of 1", x.of(1, 7), 2);
        E.due("READY of 2", x.of(2, 2), 500);
        E.due("WAIT of 3", x.of(3, 9), 7);
        x.builds();
        int[] due = {0, 5, 0, 1000, 3, 0, 1, 0, 0, 0, 0, NONE, 0, 0, 0, 0};
        for (int s = 1; s <= 3; s++) {
            for (int what = 0; what < due.length; what++) {
                E.due("of(" + s + ", " + what + ")", x.of(s, what), due[what]);
            }
        }
    }

    private static void buildsFloors() {
        E.says(19, "FLOORS are 0");
        HungStreams x = Check.built("1:1(12:1)");
        x.readies(12, 300);
        x.sends(3);
        E.due("FLOOR of THE ROOT was raised", x.turn(0, 1), 200 * Edges.UNIT);
        E.due("FLOOR of 1 was raised", x.turn(1, 1), 200 * Edges.UNIT);
        x.builds();
        E.due("FLOOR of THE ROOT", x.turn(0, 1), 0);
        E.due("FLOOR of 1", x.turn(1, 1), 0);
        E.due("TURN of 1", x.turn(1, 0), 0);
        E.due("TURN of 12", x.turn(12, 0), 0);
    }

    private static void buildsFromTheLeft() {
        E.says(19, "those of THE TEXT (which stays) come, from its left, each HANGS itself on what it stands in (not ALONE)");
        HungStreams x = Check.built("12:1 5:2(11:3(1:4) 2:5) 7:6");
        int[][] parents = {{12, 0}, {5, 0}, {11, 5}, {1, 11}, {2, 5}, {7, 0}};
        for (int[] p : parents) {
            E.due("PARENT of " + p[0], x.of(p[0], 0), p[1]);
        }
        E.due("WEIGHT of 1", x.of(1, 1), 4);
    }

    private static void buildsTextStays() {
        E.says(19, "(which stays)");
        HungStreams x = Check.built("1:1(2:1)");
        E.due("told(3)", x.told(3), 8);
        E.due("again", x.builds(), 2);
        x.type('x');
        E.due("by a FAULT, too", x.builds(), -18);
        E.due("told(3)", x.told(3), 9);
    }

    private static void buildsHowMany() {
        E.says(19, ": how many.");
        String[] texts = {"", "1:1", "1:1(2:1)", "1:1 2:1 3:1 4:1 5:1 6:1 7:1 8:1 9:1 10:1 11:1 12:1",
            "1:1(2:1(3:1(4:1(5:1(6:1(7:1(8:1(9:1(10:1(11:1(12:1)))))))))))"};
        int[] due = {0, 1, 2, 12, 12};
        for (int i = 0; i < texts.length; i++) {
            HungStreams x = new HungStreams();
            Check.typeAnew(x, texts[i]);
            E.due("'" + texts[i] + "'", x.builds(), due[i]);
        }
    }

    private static void buildsState() {
        E.says(19, "S.");
        E.leavesState("builds()", x -> x.builds());
        HungStreams x = Check.built("1:1");
        x.builds();
        x.back();
        E.due("also if nothing changes", x.told(9), 1);
    }

    private static void buildsFault() {
        E.says(19, "-10 less the FAULT.");
        HungStreams x = new HungStreams();
        Check.typeAnew(x, "x");
        E.due("the first byte", x.builds(), -10);
        Check.typeAnew(x, "1x");
        E.due("the second", x.builds(), -11);
        Check.typeAnew(x, " ".repeat(119) + "x");
        E.due("the last", x.builds(), -129);
        Check.typeAnew(x, " ".repeat(119) + "1");
        E.due("behind the last", x.builds(), -130);
        E.due("no STATE", x.told(9), 0);
    }

    private static void shown() {
        E.says(20, "Byte i of the TREE as a text");
        HungStreams x = Check.built("1:16(12:3) 4:5");
        String want = "1:16(12:3) 4:5";
        for (int i = 0; i < want.length(); i++) {
            E.due("shown(" + i + ")", x.shown(i), want.charAt(i));
        }
        HungStreams y = Check.built(want);
        Check.typeAnew(y, Check.shownWhole(y));
        E.due("it can be built again", y.builds(), 3);
        E.shows("tree", y, want);
    }

    private static void shownFromTheLeast() {
        E.says(20, "CHILDREN from the least on");
        E.shows("in each row", Check.built("12:1(9:1 2:1 10:1) 1:1(11:1 3:1)"), "1:1(3:1 11:1) 12:1(2:1 9:1 10:1)");
    }

    private static void shownNumbers() {
        E.says(20, "numbers with no 0 ahead");
        E.shows("9 and 10", Check.built("09:09 10:10 01:01"), "1:1 9:9 10:10");
    }

    private static void shownBlanks() {
        E.says(20, "a blank between two S, no other blanks");
        E.shows("none ahead or behind", Check.built("  1 : 1 ( 2 : 1 ) 3 : 1  "), "1:1(2:1) 3:1");
        E.shows("one alone", Check.built(" 1:1 "), "1:1");
        E.shows("the longest", Check.built("1:16(2:16(3:16(4:16(5:16(6:16(7:16(8:16(9:16(10:16(11:16(12:16)))))))))))"),
            "1:16(2:16(3:16(4:16(5:16(6:16(7:16(8:16(9:16(10:16(11:16(12:16)))))))))))");
    }

    private static void shownNone() {
        E.says(20, "NONE: not so many.");
        HungStreams x = new HungStreams();
        E.due("an empty TREE", x.shown(0), NONE);
        x.comes(1, 0, 1, 0);
        E.due("the last byte", x.shown(2), '1');
        E.due("behind the last", x.shown(3), NONE);
        E.asks("i 119", y -> y.shown(119), NONE);
        E.asks("i 120", y -> y.shown(120), NONE);
        E.asks("i the greatest", y -> y.shown(MAX), NONE);
        HungStreams z = Check.built("1:16(2:16(3:16))");
        Check.shownWhole(z);
        z.closes(2);
        z.settings(2, 0);
        E.due("a shorter TREE than before", z.shown(10), NONE);
        E.due("its last byte", z.shown(9), ')');
    }

    private static void shownBad() {
        E.says(20, "BAD: i below 0.");
        E.bad("shown(-1)", x -> x.shown(-1));
        E.bad("the least", x -> x.shown(MIN));
    }

    private static void back() {
        E.says(21, "A STATE back: how many can be yet.");
        HungStreams x = new HungStreams();
        for (int s = 1; s <= 6; s++) {
            x.comes(s, 0, 1, 0);
        }
        for (int left = 4; left >= 0; left--) {
            E.due("back()", x.back(), left);
            E.due("told(9)", x.told(9), left);
            E.due("all(0)", x.all(0), (1 << left + 2) - 2);
        }
        x.comes(7, 0, 1, 0);
        x.comes(8, 0, 1, 0);
        E.due("on from there", x.back(), 1);
        E.due("all(0)", x.all(0), 2 | 1 << 7);
    }

    private static void backNone() {
        E.says(21, "NO: none.");
        E.refused("a new one", HungStreams::new, x -> x.back(), NO);
        E.refused("all were taken", () -> {
            HungStreams x = Edges.busy();
            while (x.told(9) > 0) {
                x.back();
            }
            return x;
        }, x -> x.back(), NO);
    }

    private static void toldRefused() {
        E.says(22, "How often refused: BAD (0), NO (1), FULL (2)");
        HungStreams x = new HungStreams();
        for (int i = 1; i <= 3; i++) {
            x.told(-1);
            E.due("BAD", x.told(0), i);
        }
        for (int i = 1; i <= 2; i++) {
            x.back();
            E.due("NO", x.told(1), i);
        }
        Check.typeAnew(x, " ".repeat(121));
        E.due("FULL", x.told(2), 1);
        E.due("BAD still", x.told(0), 3);
        E.due("NO still", x.told(1), 2);
    }

    private static void toldBytes() {
        E.says(22, "bytes of THE TEXT (3)");
        HungStreams x = new HungStreams();
        E.due("none", x.told(3), 0);
        x.type(0);
        E.due("one", x.told(3), 1);
        Check.typeAnew(x, " ".repeat(121));
        E.due("most", x.told(3), 120);
    }

    private static void toldSettings() {
        E.says(22, "POOL (4), SIZE (5), KEEP (6), SCHEME (7)");
        HungStreams x = Check.built("1:1");
        x.settings(0, 99999);
        x.settings(1, 998);
        x.settings(2, 50);
        x.settings(3, 1);
        x.readies(1, 999);
        x.sends(1);
        int[] due = {99999 - 998, 998, 50, 1};
        for (int what = 4; what <= 7; what++) {
            E.due("told(" + what + ")", x.told(what), due[what - 4]);
        }
    }

    private static void toldFrames() {
        E.says(22, "FRAMES (8)");
        HungStreams x = Check.built("1:1");
        E.due("none", x.told(8), 0);
        x.readies(1, 900);
        x.sends(9);
        E.due("nine", x.told(8), 9);
        x.builds();
        E.due("they stay", x.told(8), 9);
        x.back();
        x.back();
        E.due("taken back", x.told(8), 0);
    }

    private static void toldStates() {
        E.says(22, "STATES (9).");
        HungStreams x = new HungStreams();
        for (int i = 0; i <= 7; i++) {
            E.due("behind " + i, x.told(9), Math.min(i, 5));
            x.sends(1);
        }
        x.back();
        E.due("one taken", x.told(9), 4);
    }

    private static void toldBad() {
        E.says(22, "BAD.");
        for (int what : new int[] {-1, 10, MIN, MAX}) {
            E.bad("told(" + what + ")", x -> x.told(what));
        }
    }

    private static long digestOf(long... values) {
        long h = 2311;
        for (long v : values) {
            h = 31 * h + v;
        }
        return h;
    }

    private static void digestBegins() {
        E.says(23, "h = 2311; then h = 31 h + v for each v: told(0) to told(9); all(0) to all(6)");
        E.due("a new one's", new HungStreams().digest(),
            digestOf(0, 0, 0, 0, 10000, 100, 10, 0, 0, 0, 0, 0, 0, 0, 0, 0, -1, 0, -1));
        HungStreams x = new HungStreams();
        x.type('x');
        x.told(-1);
        x.back();
        x.settings(0, 7);
        E.due("another's", x.digest(), digestOf(1, 1, 0, 1, 7, 100, 10, 0, 0, 1, 0, 0, 0, 0, 0, 0, -1, 0, -1));
        E.due("it counts nothing itself", x.digest(),
            digestOf(1, 1, 0, 1, 7, 100, 10, 0, 0, 1, 0, 0, 0, 0, 0, 0, -1, 0, -1));
    }

    private static void digestValues() {
        E.says(23, "FLOOR of THE ROOT; next().");
        HungStreams x = Check.built("12:2");
        x.readies(12, 300);
        x.sends(2);
        long unit = Edges.UNIT;
        E.due("digest()", x.digest(), digestOf(0, 0, 0, 4, 9800, 100, 10, 0, 2, 3, 4096, 4096, 4096, 200, 0, 100, 12,
            12, 0, 2, 100, 800, 3, 0, 1, 0, 200, 0, 0, 2, 0, 0, 1, 1, 100 * unit, 0, 50 * unit, 12));
    }

    private static void digestStreams() {
        E.says(23, "of each STREAM there, by numbers, its number, of(0) to of(15), turn(0), turn(1)");
        HungStreams x = Check.built("12:2(1:3)");
        E.due("digest()", x.digest(), digestOf(0, 0, 0, 9, 10000, 100, 10, 0, 0, 1, 4098, 0, 0, 0, 0, 0, -1,
            1, 12, 3, 0, 1000, 3, 0, 1, 0, 0, 0, 0, -1, 0, 0, 0, 0, 0, 0,
            12, 0, 2, 0, 1000, 3, 0, 1, 0, 0, 0, 0, -1, 1, 1, 0, 0, 0, 0,
            0, -1));
    }

    // By numbers without a bound, and what is beyond 64 bits cut off at the end.
    private static void digestWrapsAround() {
        E.says(23, "h = 31 h + v for each v");
        HungStreams x = Edges.busy();
        List<Long> values = new ArrayList<>();
        for (int what = 0; what <= 9; what++) {
            values.add((long) x.told(what));
        }
        for (int what = 0; what <= 6; what++) {
            values.add((long) x.all(what));
        }
        for (int s : new int[] {1, 2, 3, 4, 5, 12}) {
            values.add((long) s);
            for (int what = 0; what <= 15; what++) {
                values.add((long) x.of(s, what));
            }
            values.add(x.turn(s, 0));
            values.add(x.turn(s, 1));
        }
        values.add(x.turn(0, 1));
        values.add((long) x.next());
        BigInteger h = BigInteger.valueOf(2311);
        for (long v : values) {
            h = h.multiply(BigInteger.valueOf(31)).add(BigInteger.valueOf(v));
        }
        E.due("digest()", x.digest(), h.longValue());
    }
}
