/** The terms' sentences on THE TEXT, STATES and what is refused, one test each. */
public final class EdgesTextTermsTest {
    private static final int BAD = HungStreams.BAD, NO = HungStreams.NO, FULL = HungStreams.FULL;
    private static final Edges E = new Edges();

    public static void main(String[] args) {
        textOf120();
        noneOrMore();
        numberOfStream();
        weightOfStream();
        oneOrMoreInside();
        figures();
        blanks();
        blanksNeeded();
        firstByte();
        outOfBounds();
        toldAlready();
        knownToEnd();
        atTheEnd();
        aheadOfWhatIsMissing();
        thirdFigure();
        endsTooEarly();
        emptyText();
        eachLeavesOne();
        refusedLeavesNone();
        nothingChanges();
        allButTheText();
        fiveAtMost();
        questionsRefused();
        nothingButHowOften();
        badFirst();
        noAsTold();
        faultCountsNothing();
        E.end();
    }

    private static void tells(String text, String tree) {
        HungStreams x = new HungStreams();
        Check.typeAnew(x, text);
        E.due("builds() of '" + text + "'", x.builds() < 0 ? 1 : 0, 0);
        E.shows("'" + text + "'", x, tree);
    }

    private static void fault(String text, int place) {
        HungStreams x = new HungStreams();
        Check.typeAnew(x, text);
        E.due("builds() of '" + text + "'", x.builds(), -10 - place);
    }

    private static void textOf120() {
        E.says(0, "THE TEXT (120 bytes at most)");
        HungStreams x = new HungStreams();
        Check.typeAnew(x, " ".repeat(119));
        E.due("the 120th", x.type('7'), 120);
        E.due("the 121st", x.type(':'), FULL);
        E.due("told(3)", x.told(3), 120);
        tells(" ".repeat(117) + "7:8", "7:8");
        tells("7:8" + " ".repeat(117), "7:8");
        fault(" ".repeat(118) + "7:", 120);
        fault(" ".repeat(119) + ":", 119);
    }

    private static void noneOrMore() {
        E.says(0, "tells a TREE: none or more of S in a row");
        tells("", "");
        tells(" ", "");
        tells(" ".repeat(120), "");
        tells("3:1", "3:1");
        tells("1:1 2:1 3:1 4:1 5:1 6:1 7:1 8:1 9:1 10:1 11:1 12:1",
            "1:1 2:1 3:1 4:1 5:1 6:1 7:1 8:1 9:1 10:1 11:1 12:1");
    }

    private static void numberOfStream() {
        E.says(0, "S: a number 1 .. 12");
        tells("1:5", "1:5");
        tells("12:5", "12:5");
        fault("0:5", 0);
        fault("13:5", 0);
        fault(":5", 0);
    }

    private static void weightOfStream() {
        E.says(0, ": and a WEIGHT 1 .. 16");
        tells("5:1", "5:1");
        tells("5:16", "5:16");
        fault("5:0", 2);
        fault("5:17", 2);
        fault("5:(", 2);
        fault("5(", 1);
        fault("5;1", 1);
    }

    private static void oneOrMoreInside() {
        E.says(0, "perhaps ( and one or more of S and ) , which hang on it");
        tells("1:1(2:1)", "1:1(2:1)");
        tells("1:1(4:1 3:1 2:1)", "1:1(2:1 3:1 4:1)");
        tells("1:1(2:1(3:1)4:1)5:1", "1:1(2:1(3:1) 4:1) 5:1");
        tells("12:1(11:1(10:1(9:1(8:1(7:1(6:1(5:1(4:1(3:1(2:1(1:1)))))))))))",
            "12:1(11:1(10:1(9:1(8:1(7:1(6:1(5:1(4:1(3:1(2:1(1:1)))))))))))");
        fault("1:1()", 4);
        fault("1:1(2:1())", 8);
        fault("1:1(2:1)(3:1)", 8);
        fault("1:1((2:1))", 4);
        fault("1:1)", 3);
        fault("1:1(2:1))", 8);
    }

    private static void figures() {
        E.says(0, "numbers have 1 or 2 figures");
        tells("1:1 02:02 12:16", "1:1 2:2 12:16");
        fault("001:1", 2);
        fault("1:001", 4);
    }

    private static void blanks() {
        E.says(0, "blanks (32) may stand anywhere but within a number");
        tells("  1  :  2  (  3  :  4  )  5  :  6  ", "1:2(3:4) 5:6");
        fault("1 2:3", 2);
        fault("1:1 2", 5);
        fault("1\t:2", 1);
        fault("1\n:2", 1);
        fault("\0" + "1:2", 0);
        fault("1:1\u001f", 3);
        fault("1:1!", 3);
    }

    private static void blanksNeeded() {
        E.says(0, "needed only between two numbers.");
        tells("1:2(3:4)5:6", "1:2(3:4) 5:6");
        tells("1:2(3:4(6:1)5:1)", "1:2(3:4(6:1) 5:1)");
        fault("1:12:3", 4);
        fault("1:1(2:13:1)", 8);
    }

    private static void firstByte() {
        E.says(0, "FAULT: the place of the first byte that can not stand there");
        fault("x", 0);
        fault("(", 0);
        fault(")", 0);
        fault("(1:1)", 0);
        fault(" )", 1);
        fault("1x", 1);
        fault("1:x", 2);
        fault("1:1x", 3);
        fault("1:1 x x", 4);
        fault("1:1(x", 4);
        fault("1:1(2:1x", 7);
        fault("1:1(2:1)x", 8);
        fault("1:1( )", 5);
        fault("/:1", 0);
        fault("1:/", 2);
        fault("1::", 2);
    }

    private static void outOfBounds() {
        E.says(0, "(a number out of its bounds");
        fault("0:1", 0);
        fault("00:1", 0);
        fault("13:1", 0);
        fault("99:1", 0);
        fault("1:0", 2);
        fault("1:00", 2);
        fault("1:17", 2);
        fault("1:99", 2);
        fault("1:  17", 4);
        fault("2:1(13:1)", 4);
        fault("2:1(1:17)", 6);
    }

    private static void toldAlready() {
        E.says(0, "of a STREAM told already: its first byte");
        fault("1:1 1:1", 4);
        fault("1:1 01:1", 4);
        fault("1:1(1:1)", 4);
        fault("1:1(2:1) 2:1", 9);
        fault("1:1(2:1(3:1)) 3:1", 14);
        fault("12:1 12:1", 5);
        tells("1:2 2:2", "1:2 2:2");
        tells("1:1 12:1", "1:1 12:1");
        fault("1:1 2:1 3:1 4:1 5:1 6:1 7:1 8:1 9:1 10:1 11:1 12:1 1", 51);
    }

    private static void knownToEnd() {
        E.says(0, "as soon as it is known to end");
        fault("13x", 0);
        fault("0 ", 0);
        fault("1:1 1x", 4);
        fault("1:17x", 2);
        fault("1:0(", 2);
    }

    private static void atTheEnd() {
        E.says(0, "(at the end of THE TEXT, too)");
        fault("0", 0);
        fault("13", 0);
        fault("1:1 1", 4);
        fault("1:1(1", 4);
        fault("1:0", 2);
        fault("1:17", 2);
        fault("1:1(2:17", 6);
        fault(" ".repeat(118) + "13", 118);
    }

    private static void aheadOfWhatIsMissing() {
        E.says(0, "ahead of what is missing behind it");
        fault("13(", 0);
        fault("13 1", 0);
        fault("1:1(2:0", 6);
        fault("1:1(1)", 4);
        fault("2:1 2 ", 4);
    }

    private static void thirdFigure() {
        E.says(0, "a third figure: itself, ahead of that)");
        fault("123:1", 2);
        fault("123", 2);
        fault("991:1", 2);
        fault("000", 2);
        fault("1234", 2);
        fault("1:123", 4);
        fault("1:991", 4);
        fault("1:1 011", 6);
        fault("1:1 100", 6);
    }

    private static void endsTooEarly() {
        E.says(0, "the TEXT's length, if it ends too early");
        String[] texts = {"1", "12", "1 ", "1:", "1: ", "1:1(", "1:1( ", "1:1(2", "1:1(2:", "1:1(2:1", "1:1(2:1 ",
            "1:1(2:1(3:1)", "1:1(2:1(3:1) ", "1:1 2", "1:1 2:", " 1", " ".repeat(119) + "1", " ".repeat(116) + "1:1("};
        for (String text : texts) {
            fault(text, text.length());
        }
    }

    private static void emptyText() {
        E.says(0, "(an empty one tells no STREAMS).");
        HungStreams x = new HungStreams();
        E.due("builds()", x.builds(), 0);
        E.due("a STATE", x.told(9), 1);
        x.comes(1, 0, 1, 0);
        E.due("builds()", x.builds(), 0);
        E.due("all(0)", x.all(0), 0);
    }

    private static void eachLeavesOne() {
        E.says(0, "STATES: each call told S, if it is not refused, leaves one");
        E.leavesState("comes", x -> x.comes(6, 2, 9, 1));
        E.leavesState("moves", x -> x.moves(1, 5, 9, 1));
        E.leavesState("sets, WEIGHT", x -> x.sets(1, 0, 9));
        E.leavesState("sets, URGENCY", x -> x.sets(1, 1, 7));
        E.leavesState("sets, STEPWISE", x -> x.sets(1, 2, 1));
        E.leavesState("closes", x -> x.closes(2));
        E.leavesState("readies", x -> x.readies(4, 9));
        E.leavesState("window", x -> x.window(4, 9));
        E.leavesState("settings, POOL", x -> x.settings(0, 9));
        E.leavesState("settings, SIZE", x -> x.settings(1, 9));
        E.leavesState("settings, KEEP", x -> x.settings(2, 0));
        E.leavesState("settings, SCHEME", x -> x.settings(3, 1));
        E.leavesState("sends", x -> x.sends(100));
        E.leavesState("builds", x -> x.builds());
    }

    private static void refusedLeavesNone() {
        E.says(0, "if it is not refused");
        HungStreams x = Check.built("1:1");
        x.comes(1, 0, 1, 0);
        x.comes(2, 0, 17, 0);
        x.moves(2, 0, 1, 0);
        x.sets(1, 0, 17);
        x.closes(2);
        x.readies(1, 0);
        x.window(1, -1);
        x.settings(4, 0);
        x.sends(0);
        x.type('(');
        x.builds();
        E.due("told(9)", x.told(9), 1);
    }

    private static void nothingChanges() {
        E.says(0, "also if nothing changes by it");
        E.leavesState("moves", x -> x.moves(5, 2, 1, 0));
        E.leavesState("sets", x -> x.sets(1, 0, 3));
        E.leavesState("window", x -> x.window(5, 1000));
        E.leavesState("settings", x -> x.settings(2, 10));
        HungStreams x = new HungStreams();
        x.sends(1);
        E.due("sends", x.told(9), 1);
        x.builds();
        E.due("builds", x.told(9), 2);
    }

    private static void allButTheText() {
        E.says(0, "to go back to (all of this but THE TEXT and how often was refused)");
        HungStreams x = Check.built("1:1");
        x.comes(2, 0, 1, 0);
        x.type('x');
        x.told(10);
        x.closes(9);
        x.comes(1, 0, 1, 0);
        x.back();
        E.due("THE TEXT", x.told(3), 4);
        E.due("how often BAD", x.told(0), 2);
        E.due("how often NO", x.told(1), 1);
        E.due("the STREAMS", x.all(0), 2);
        x.readies(1, 300);
        x.sends(2);
        x.sends(1);
        x.back();
        E.due("FRAMES", x.told(8), 2);
        E.due("POOL", x.told(4), 9800);
        E.due("LAST", x.of(1, 11), 2);
        E.due("FLOOR of THE ROOT", x.turn(0, 1), 100 * Edges.UNIT);
        x.settings(1, 7);
        x.sends(1);
        x.back();
        E.due("BYTES of the last FRAME", x.all(5), 100);
        x.back();
        x.back();
        E.due("no FRAME yet, BYTES", x.all(5), 0);
        E.due("no FRAME yet, STREAM", x.all(6), HungStreams.NONE);
    }

    private static void fiveAtMost() {
        E.says(0, "5 at most, older ones lost.");
        for (int calls = 0; calls <= 16; calls++) {
            HungStreams x = new HungStreams();
            for (int i = 1; i <= calls; i++) {
                x.settings(0, i);
            }
            int most = Math.min(calls, 5);
            E.due("told(9) behind " + calls, x.told(9), most);
            for (int left = most - 1; left >= 0; left--) {
                E.due("back() behind " + calls, x.back(), left);
                int pool = calls - most + left;
                E.due("POOL", x.told(4), pool == 0 ? 10000 : pool);
            }
            E.due("none is left of " + calls, x.back(), NO);
        }
    }

    private static void questionsRefused() {
        E.says(0, "Refused (a question, too)");
        E.bad("of", x -> x.of(1, 16));
        E.bad("turn", x -> x.turn(1, 2));
        E.bad("child", x -> x.child(1, -1));
        E.bad("common", x -> x.common(1, 6));
        E.bad("share", x -> x.share(1, 2));
        E.bad("all", x -> x.all(7));
        E.bad("shown", x -> x.shown(-1));
        E.bad("told", x -> x.told(10));
    }

    private static void nothingButHowOften() {
        E.says(0, "changing nothing but how often");
        E.bad("comes ALONE, a wrong WEIGHT", x -> x.comes(6, 1, 17, 1));
        E.no("comes ALONE, it is there", x -> x.comes(4, 1, 9, 1));
        E.bad("moves ALONE, a wrong WEIGHT", x -> x.moves(1, 2, 17, 1));
        E.bad("sets", x -> x.sets(1, 1, 8));
        E.no("closes", x -> x.closes(3));
        E.no("readies", x -> x.readies(2, 9999));
        E.bad("window", x -> x.window(2, 10000));
        E.bad("settings", x -> x.settings(2, -1));
        E.bad("sends", x -> x.sends(101));
        E.bad("type", x -> x.type(128));
        E.refused("type, FULL", Edges::busyWithFullText, x -> x.type('x'), FULL);
        E.refused("back", HungStreams::new, x -> x.back(), NO);
    }

    private static void badFirst() {
        E.says(0, "the first of: BAD -2 a number is not as told");
        E.due("BAD", BAD, -2);
        E.bad("comes, it is there, a wrong WEIGHT", x -> x.comes(1, 0, 17, 0));
        E.bad("comes, it is there, p is not", x -> x.comes(1, 6, 1, 0));
        E.bad("comes, it is there, a wrong alone", x -> x.comes(1, 0, 1, 2));
        E.bad("readies, CLOSED, none", x -> x.readies(3, 0));
        E.bad("readies, CLOSED, too many", x -> x.readies(3, 10000));
        E.bad("readies, more than there may be, too many", x -> x.readies(2, 10000));
        E.refused("type, FULL, no byte", Edges::busyWithFullText, x -> x.type(-1), BAD);
    }

    private static void noAsTold() {
        E.says(0, "NO -3 as told.");
        E.due("NO", NO, -3);
        E.no("comes", x -> x.comes(1, 0, 1, 0));
        E.no("closes", x -> x.closes(3));
        E.no("readies", x -> x.readies(3, 1));
        E.refused("back", HungStreams::new, x -> x.back(), NO);
    }

    private static HungStreams faulty() {
        HungStreams x = Edges.busy();
        x.type(')');
        return x;
    }

    private static void faultCountsNothing() {
        E.says(0, "By a FAULT nothing counts.");
        HungStreams x = faulty();
        HungStreams twin = faulty();
        for (int i = 0; i < 7; i++) {
            E.due("builds()", x.builds(), -10 - (x.told(3) - 1));
        }
        for (int what = 0; what <= 2; what++) {
            E.due("told(" + what + ")", x.told(what), twin.told(what));
        }
        for (int i = 0; i < 5; i++) {
            E.due("nothing changed", x.digest(), twin.digest());
            E.due("back()", x.back(), twin.back());
        }
    }
}
