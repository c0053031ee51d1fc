/** Promises 10 to 16, sentence by sentence: at their bounds, just inside and just outside. */
public final class EdgesBytesTest {
    private static final int NO = HungStreams.NO, NONE = HungStreams.NONE;
    private static final int MIN = Integer.MIN_VALUE, MAX = Integer.MAX_VALUE;
    private static final Edges E = new Edges();

    public static void main(String[] args) {
        readies();
        readiesState();
        readiesBad();
        readiesClosed();
        readiesTooMany();
        window();
        windowState();
        windowBad();
        settings();
        settingsState();
        settingsBad();
        sends();
        sendsUpToNone();
        sendsState();
        sendsBad();
        next();
        nextNone();
        nextChangesNothing();
        share();
        shareBad();
        allThere();
        allCan();
        allLive();
        allSent();
        allLongest();
        lastBytes();
        lastStream();
        allBad();
        E.end();
    }

    private static void readies() {
        E.says(10, "v (1 .. 9999) bytes more are READY at s: how many are.");
        HungStreams x = Check.built("1:1 12:1");
        E.due("least", x.readies(1, 1), 1);
        E.due("more", x.readies(1, 9), 10);
        E.due("most", x.readies(12, 9999), 9999);
        E.due("READY", x.of(1, 2), 10);
        E.bad("0", y -> y.readies(4, 0));
        E.bad("10000", y -> y.readies(5, 10000));
    }

    private static void readiesState() {
        E.says(10, "S.");
        E.leavesState("readies(5, 1)", x -> x.readies(5, 1));
        E.leavesState("readies(5, 9999)", x -> x.readies(5, 9999));
    }

    private static void readiesBad() {
        E.says(10, "BAD");
        int[][] bad = {{5, -1}, {5, MIN}, {5, MAX}, {0, 1}, {6, 1}, {13, 1}, {-1, 1}, {MIN, 1}, {MAX, 1}};
        for (int[] b : bad) {
            E.bad("readies(" + b[0] + ", " + b[1] + ")", x -> x.readies(b[0], b[1]));
        }
    }

    private static void readiesClosed() {
        E.says(10, "NO: it is CLOSED");
        E.no("readies(3, 1)", x -> x.readies(3, 1));
        E.no("readies(3, 9999)", x -> x.readies(3, 9999));
    }

    private static HungStreams withReady(int ready) {
        HungStreams x = Check.built("1:1 2:1");
        x.readies(1, ready);
        return x;
    }

    private static void readiesTooMany() {
        E.says(10, "or there would be more than 9999.");
        E.due("9999 just", withReady(9998).readies(1, 1), 9999);
        E.due("9999 just", withReady(1).readies(1, 9998), 9999);
        E.refused("10000", () -> withReady(9999), x -> x.readies(1, 1), NO);
        E.refused("10000", () -> withReady(1), x -> x.readies(1, 9999), NO);
        E.refused("19998", () -> withReady(9999), x -> x.readies(1, 9999), NO);
        E.due("at another", withReady(9999).readies(2, 9999), 9999);
    }

    private static void window() {
        E.says(11, "WINDOW of s becomes v: what it was.");
        HungStreams x = Check.built("1:1 12:1");
        E.due("least", x.window(12, 0), 1000);
        E.due("the same", x.window(12, 0), 0);
        E.due("most", x.window(12, 9999), 0);
        E.due("it is so", x.of(12, 3), 9999);
        E.due("no other's", x.of(1, 3), 1000);
        x.closes(1);
        E.due("a CLOSED one's", x.window(1, 5), 1000);
    }

    private static void windowState() {
        E.says(11, "S.");
        E.leavesState("window(5, 0)", x -> x.window(5, 0));
        E.leavesState("window(4, 9999)", x -> x.window(4, 9999));
    }

    private static void windowBad() {
        E.says(11, "BAD.");
        int[][] bad = {{5, -1}, {5, 10000}, {5, MIN}, {5, MAX}, {0, 1}, {6, 1}, {13, 1}, {-1, 1}, {MIN, 1}, {MAX, 1}};
        for (int[] b : bad) {
            E.bad("window(" + b[0] + ", " + b[1] + ")", x -> x.window(b[0], b[1]));
        }
    }

    private static void settings() {
        E.says(12, "POOL (what 0), SIZE (1), KEEP (2), SCHEME (3) becomes v: what it was.");
        HungStreams x = new HungStreams();
        int[][] calls = {{0, 0, 10000}, {0, 99999, 0}, {1, 1, 100}, {1, 999, 1}, {2, 0, 10}, {2, 50, 0}, {3, 1, 0},
            {3, 1, 1}, {3, 0, 1}};
        for (int[] c : calls) {
            E.due("settings(" + c[0] + ", " + c[1] + ")", x.settings(c[0], c[1]), c[2]);
        }
        int[] now = {99999, 999, 50, 0};
        for (int what = 0; what <= 3; what++) {
            E.due("told(" + (4 + what) + ")", x.told(4 + what), now[what]);
        }
    }

    private static void settingsState() {
        E.says(12, "S.");
        E.leavesState("POOL", x -> x.settings(0, 0));
        E.leavesState("SIZE", x -> x.settings(1, 999));
        E.leavesState("KEEP, one GOES", x -> x.settings(2, 0));
        E.leavesState("KEEP", x -> x.settings(2, 50));
        E.leavesState("SCHEME", x -> x.settings(3, 1));
    }

    private static void settingsBad() {
        E.says(12, "BAD.");
        int[][] bad = {{0, -1}, {0, 100000}, {0, MIN}, {0, MAX}, {1, 0}, {1, 1000}, {1, MIN}, {1, MAX}, {2, -1}, {2, 51},
            {2, MIN}, {2, MAX}, {3, -1}, {3, 2}, {3, MIN}, {3, MAX}, {-1, 1}, {4, 1}, {MIN, 1}, {MAX, 1}};
        for (int[] b : bad) {
            E.bad("settings(" + b[0] + ", " + b[1] + ")", x -> x.settings(b[0], b[1]));
        }
    }

    private static HungStreams much() {
        HungStreams x = Check.built("1:1");
        x.settings(1, 1);
        x.readies(1, 9999);
        x.window(1, 9999);
        return x;
    }

    private static void sends() {
        E.says(13, "n (1 .. 100) FRAMES are tried");
        HungStreams x = much();
        E.due("least", x.sends(1), 1);
        E.due("FRAMES", x.told(8), 1);
        E.due("most", x.sends(100), 100);
        E.due("FRAMES", x.told(8), 101);
        E.bad("0", y -> y.sends(0));
        E.bad("101", y -> y.sends(101));
    }

    private static void sendsUpToNone() {
        E.says(13, "up to the first that there is none of: how many were sent.");
        HungStreams x = much();
        x.window(1, 7);
        E.due("fewer than n", x.sends(8), 7);
        E.due("none", x.sends(100), 0);
        x.window(1, 7);
        E.due("just n", x.sends(7), 7);
        x.window(1, 7);
        x.settings(0, 3);
        E.due("by POOL", x.sends(100), 3);
        E.due("FRAMES", x.told(8), 17);
        E.due("nobody is there", new HungStreams().sends(100), 0);
    }

    private static void sendsState() {
        E.says(13, "S.");
        E.leavesState("one FRAME", x -> x.sends(1));
        E.leavesState("many: one STATE", x -> x.sends(100));
        HungStreams x = new HungStreams();
        x.sends(1);
        E.due("none was sent", x.told(9), 1);
    }

    private static void sendsBad() {
        E.says(13, "BAD.");
        for (int n : new int[] {-1, MIN, MAX}) {
            E.bad("sends(" + n + ")", x -> x.sends(n));
        }
    }

    private static void next() {
        E.says(14, "The STREAM that would send the next FRAME");
        HungStreams x = Check.built("12:1(11:1) 1:2");
        x.readies(11, 300);
        E.due("the deeper one", x.next(), 11);
        x.sends(1);
        x.readies(1, 300);
        for (int i = 0; i < 5; i++) {
            int would = x.next();
            E.due("sends(1) " + i, x.sends(1), 1);
            E.due("all(6) " + i, x.all(6), would);
        }
        // 3 was not LIVE till now: it would begin at the FLOOR, where 2 is.
        HungStreams y = Check.built("1:1 2:1 3:16");
        y.readies(1, 300);
        y.readies(2, 300);
        y.sends(5);
        y.readies(3, 300);
        E.due("FRESH, of like ones the least", y.next(), 2);
    }

    private static void nextNone() {
        E.says(14, "NONE.");
        E.due("nobody is there", new HungStreams().next(), NONE);
        HungStreams x = much();
        x.settings(0, 0);
        E.due("POOL 0", x.next(), NONE);
        x.settings(3, 1);
        E.due("POOL 0, by SCHEME 1", x.next(), NONE);
        x.settings(0, 1);
        x.window(1, 0);
        E.due("nobody CAN, by SCHEME 1", x.next(), NONE);
        x.settings(3, 0);
        E.due("nobody CAN", x.next(), NONE);
    }

    private static void nextChangesNothing() {
        E.says(14, "(Nothing changes.)");
        HungStreams y = Edges.busy();
        y.sends(1);
        E.asks("next()", x -> x.next(), y.all(6));
        HungStreams z = Check.built("1:1 2:1");
        z.readies(1, 300);
        z.sends(3);
        z.readies(2, 300);
        z.next();
        E.due("not even a TURN", z.turn(2, 0), 0);
        E.due("nor a FLOOR", z.turn(0, 1), 200 * Edges.UNIT);
    }

    private static void share() {
        E.says(15, "SHARE of s: above (what 0), below (1).");
        HungStreams x = Check.built("1:5(12:3 2:4) 3:7");
        E.due("not LIVE, above", x.share(12, 0), 0);
        E.due("not LIVE, below", x.share(12, 1), 1);
        x.readies(12, 1);
        x.readies(2, 1);
        x.readies(3, 1);
        E.due("above", x.share(12, 0), 5);
        E.due("below: 15 by 84 in lowest terms", x.share(12, 1), 28);
        E.due("5 by 12, above", x.share(1, 0), 5);
        E.due("5 by 12, below", x.share(1, 1), 12);
    }

    private static void shareBad() {
        E.says(15, "BAD: -2.");
        int[][] bad = {{0, 0}, {0, 1}, {6, 0}, {6, 1}, {13, 0}, {-1, 0}, {MIN, 0}, {MAX, 0}, {1, -1}, {1, 2}, {1, MIN},
            {1, MAX}};
        for (int[] b : bad) {
            E.bad("share(" + b[0] + ", " + b[1] + ")", x -> x.share(b[0], b[1]));
        }
    }

    private static void allThere() {
        E.says(16, "STREAMS there (0; bit s for STREAM s)");
        E.due("none", new HungStreams().all(0), 0);
        E.due("the least", Check.built("1:1").all(0), 2);
        E.due("the greatest", Check.built("12:1").all(0), 4096);
        E.due("all", Check.built("12:1(11:1 10:1 9:1 8:1 7:1 6:1 5:1 4:1 3:1 2:1 1:1)").all(0), 8190);
        HungStreams x = Check.built("1:1 2:1");
        x.closes(2);
        E.due("CLOSED ones, too", x.all(0), 6);
    }

    private static void allCan() {
        E.says(16, "those that CAN (1, such bits)");
        HungStreams x = Check.built("1:1(12:1) 2:1 3:1");
        E.due("none", x.all(1), 0);
        x.readies(12, 1);
        x.readies(1, 1);
        x.readies(2, 1);
        x.window(2, 0);
        E.due("the first and the last", x.all(1), 1 << 1 | 1 << 12);
        x.closes(1);
        E.due("not a CLOSED one", x.all(1), 1 << 12);
        x.settings(0, 0);
        E.due("whatever POOL is", x.all(1), 1 << 12);
    }

    private static void allLive() {
        E.says(16, "those LIVE now (2, such bits)");
        HungStreams x = Check.built("1:1(12:1(3:1)) 2:1(4:1)");
        E.due("none", x.all(2), 0);
        x.readies(12, 1);
        E.due("it and what it is BELOW", x.all(2), 1 << 1 | 1 << 12);
        x.closes(1);
        E.due("now, not at the last look", x.all(2), 1 << 1 | 1 << 12);
        x.sends(1);
        E.due("none any more", x.all(2), 0);
    }

    private static void allSent() {
        E.says(16, "SENT of all that are there together (3)");
        HungStreams x = Check.built("1:1 12:1 5:1");
        E.due("none", x.all(3), 0);
        x.readies(1, 30);
        x.readies(12, 7);
        x.sends(9);
        E.due("the first and the last", x.all(3), 37);
        x.closes(1);
        E.due("CLOSED ones, too", x.all(3), 37);
        x.settings(2, 0);
        E.due("not what has gone", x.all(3), 7);
    }

    private static void allLongest() {
        E.says(16, "the greatest LONGEST of all that are there (4)");
        HungStreams x = Check.built("1:1 12:1 5:1");
        E.due("none", x.all(4), 0);
        x.settings(3, 1);
        x.readies(12, 1);
        x.readies(5, 200);
        x.readies(1, 1);
        x.sends(3);
        E.due("the last", x.all(4), 3);
        x.sets(12, 1, 0);
        x.sends(1);
        E.due("of what waits no more, too", x.all(4), 3);
        x.settings(2, 0);
        x.closes(12);
        E.due("not what has gone", x.all(4), 1);
        HungStreams y = Check.built("1:1 2:1");
        y.settings(3, 1);
        y.sets(1, 1, 7);
        y.readies(1, 1);
        y.readies(2, 200);
        y.sends(2);
        E.due("the first", y.all(4), 2);
    }

    private static void lastBytes() {
        E.says(16, "BYTES of the last FRAME sent (5; 0: none yet)");
        HungStreams x = Check.built("1:1");
        E.due("none yet", x.all(5), 0);
        x.sends(1);
        E.due("tried, not sent", x.all(5), 0);
        x.readies(1, 107);
        x.sends(1);
        E.due("the first", x.all(5), 100);
        x.sends(2);
        E.due("the last sent", x.all(5), 7);
        x.settings(2, 0);
        x.closes(1);
        E.due("though its STREAM has gone", x.all(5), 7);
    }

    private static void lastStream() {
        E.says(16, "its STREAM (6; NONE: none yet).");
        HungStreams x = Check.built("12:1");
        E.due("none yet", x.all(6), NONE);
        x.sends(1);
        E.due("tried, not sent", x.all(6), NONE);
        x.readies(12, 1);
        x.sends(2);
        E.due("the last sent", x.all(6), 12);
        x.settings(2, 0);
        x.closes(12);
        E.due("though it has gone", x.all(6), 12);
        x.clear();
        x.builds();
        E.due("though all have", x.all(6), 12);
    }

    private static void allBad() {
        E.says(16, "BAD.");
        for (int what : new int[] {-1, 7, MIN, MAX}) {
            E.bad("all(" + what + ")", x -> x.all(what));
        }
    }
}
