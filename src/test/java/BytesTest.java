/** Promises 10 to 16: readies, window, settings, sends, next, share, all. */
public final class BytesTest {
    private static final long UNIT = 720720L;
    private static final Check CHECK = new Check();

    private static void due(String call, long got, long want) {
        CHECK.due(call, got, want);
    }

    public static void main(String[] args) {
        readiesAndWindow();
        settingsEach();
        keepChanged();
        sendsCutShort();
        sendsByWeights();
        sendsAheadOfWhatHangs();
        freshOnes();
        triedInVain();
        urgencyScheme();
        waits();
        nextChangesNothing();
        firstAndLast();
        deepestLine();
        shares();
        shareOfTheDeepest();
        allEach();
        CHECK.end();
    }

    private static void readiesAndWindow() {
        HungStreams x = Check.built("3:1 4:1");
        due("10 readies(3, 1)", x.readies(3, 1), 1);
        due("10 readies(3, 9998)", x.readies(3, 9998), 9999);
        due("10 readies(3, 1)", x.readies(3, 1), HungStreams.NO);
        due("10 readies(4, 9999)", x.readies(4, 9999), 9999);
        int[][] bad = {{3, 0}, {3, 10000}, {3, -1}, {0, 1}, {5, 1}, {13, 1}, {-1, 1}, {3, Integer.MAX_VALUE},
            {3, Integer.MIN_VALUE}};
        for (int[] b : bad) {
            due("10 readies(" + b[0] + ", " + b[1] + ")", x.readies(b[0], b[1]), HungStreams.BAD);
        }
        due("10 told(0)", x.told(0), bad.length);
        x.closes(4);
        due("10 closed", x.readies(4, 1), HungStreams.NO);
        due("10 closed, and bad", x.readies(4, 0), HungStreams.BAD);
        due("10 told(1)", x.told(1), 2);
        due("10 told(9)", x.told(9), 5);

        due("11 window(3, 0)", x.window(3, 0), 1000);
        due("11 window(3, 9999)", x.window(3, 9999), 0);
        due("11 window(3, 9999)", x.window(3, 9999), 9999);
        due("11 of a closed one", x.window(4, 7), 1000);
        int before = x.told(0);
        int[][] badWindows = {{3, -1}, {3, 10000}, {0, 1}, {5, 1}, {13, 1}, {-1, 1}};
        for (int[] b : badWindows) {
            due("11 window(" + b[0] + ", " + b[1] + ")", x.window(b[0], b[1]), HungStreams.BAD);
        }
        due("11 told(0)", x.told(0), before + badWindows.length);
        due("11 unchanged", x.of(3, 3), 9999);
    }

    private static void settingsEach() {
        HungStreams x = new HungStreams();
        int[][] good = {{0, 0, 10000}, {0, 99999, 0}, {1, 1, 100}, {1, 999, 1}, {2, 0, 10}, {2, 50, 0}, {3, 1, 0},
            {3, 0, 1}, {3, 0, 0}};
        for (int[] g : good) {
            due("12 settings(" + g[0] + ", " + g[1] + ")", x.settings(g[0], g[1]), g[2]);
        }
        int[] now = {99999, 999, 50, 0};
        for (int what = 0; what < now.length; what++) {
            due("12 told(" + (what + 4) + ")", x.told(what + 4), now[what]);
        }
        due("12 told(9)", x.told(9), 5);
        int[][] bad = {{0, -1}, {0, 100000}, {1, 0}, {1, 1000}, {2, -1}, {2, 51}, {3, -1}, {3, 2}, {4, 1}, {-1, 1},
            {Integer.MAX_VALUE, 1}, {Integer.MIN_VALUE, 1}};
        for (int[] b : bad) {
            due("12 settings(" + b[0] + ", " + b[1] + ")", x.settings(b[0], b[1]), HungStreams.BAD);
        }
        due("12 told(0)", x.told(0), bad.length);
    }

    private static void keepChanged() {
        HungStreams x = Check.built("1:6(2:1 3:2) 4:1");
        x.readies(4, 900);
        x.closes(1);
        x.sends(5);
        due("12 KEEP above AGE", x.settings(2, 6), 10);
        due("12 all(0)", x.all(0), 30);
        due("12 KEEP at AGE", x.settings(2, 5), 6);
        due("12 all(0)", x.all(0), 28);
        CHECK.due("12 tree", Check.shownWhole(x), "2:2 3:4 4:1");
        x.back();
        due("12 taken back", x.all(0), 30);
        due("12 KEEP taken back", x.told(6), 6);
    }

    private static void sendsCutShort() {
        HungStreams x = Check.built("1:1");
        x.readies(1, 250);
        due("13 sends(100)", x.sends(100), 3);
        due("13 last bytes", x.all(5), 50);
        due("13 frames", x.told(8), 3);
        due("13 pool", x.told(4), 9750);
        due("13 window", x.of(1, 3), 750);
        x.readies(1, 900);
        x.window(1, 130);
        due("13 by the window", x.sends(100), 2);
        due("13 last bytes", x.all(5), 30);
        x.window(1, 500);
        x.settings(0, 170);
        due("13 by the pool", x.sends(100), 2);
        due("13 last bytes", x.all(5), 70);
        due("13 pool", x.told(4), 0);
        x.settings(0, 99999);
        x.settings(1, 999);
        due("13 by what is ready, or the window", x.sends(1), 1);
        due("13 last bytes", x.all(5), 330);
        HungStreams y = Check.built("1:1");
        y.readies(1, 9999);
        y.window(1, 9999);
        y.settings(1, 1);
        due("13 100 at most", y.sends(100), 100);
        for (int n : new int[] {0, 101, -1, Integer.MIN_VALUE, Integer.MAX_VALUE}) {
            due("13 sends(" + n + ")", y.sends(n), HungStreams.BAD);
        }
        due("13 told(0)", y.told(0), 5);
        due("13 told(9)", y.told(9), 5);
    }

    private static void sendsByWeights() {
        HungStreams x = Check.built("1:1 2:2 3:4");
        for (int s = 1; s <= 3; s++) {
            x.readies(s, 9999);
            x.window(s, 9999);
        }
        x.settings(1, 10);
        int[] order = {1, 2, 3, 3, 2, 3, 3, 1, 2, 3, 3, 2, 3, 3};
        for (int i = 0; i < order.length; i++) {
            due("13 order " + i, x.next(), order[i]);
            x.sends(1);
            due("13 sender " + i, x.all(6), order[i]);
        }
        due("13 turn(1, 0)", x.turn(1, 0), 20 * UNIT);
        due("13 turn(2, 0)", x.turn(2, 0), 20 * UNIT);
        due("13 turn(3, 0)", x.turn(3, 0), 20 * UNIT);
        due("13 last of 3", x.of(3, 11), 14);
        due("13 last of 2", x.of(2, 11), 12);
    }

    private static void sendsAheadOfWhatHangs() {
        HungStreams x = Check.built("1:1(2:1(3:1)) 4:1");
        x.readies(1, 100);
        x.readies(3, 300);
        x.settings(1, 50);
        int[] order = {1, 1, 3, 3};
        for (int i = 0; i < order.length; i++) {
            x.sends(1);
            due("13 who may send goes ahead " + i, x.all(6), order[i]);
        }
        due("13 those on the way pay: 1", x.turn(1, 0), 200 * UNIT);
        due("13 those on the way pay: 2", x.turn(2, 0), 100 * UNIT);
        due("13 floor of the root", x.turn(0, 1), 150 * UNIT);
        due("13 floor of 1", x.turn(1, 1), 50 * UNIT);
        due("13 floor of 2", x.turn(2, 1), 50 * UNIT);
    }

    // Who could not send begins where the others are, also when only what hangs on it can.
    private static void freshOnes() {
        HungStreams x = Check.built("1:1 2:1(3:1)");
        x.readies(1, 900);
        x.sends(5);
        x.readies(3, 900);
        due("13 not looked at yet", x.turn(2, 0), 0);
        due("14 next() looks without change", x.next(), 2 + 1);
        due("14 nothing changed", x.turn(2, 0), 0);
        x.sends(1);
        due("13 raised to the floor, then paid", x.turn(2, 0), 500 * UNIT);
        due("13 what was under it stood at its floor", x.turn(3, 0), 100 * UNIT);
        HungStreams y = Check.built("1:1 2:2");
        y.readies(1, 900);
        y.readies(2, 900);
        y.sends(4);
        long was = y.turn(2, 0);
        y.window(2, 0);
        y.window(2, 500);
        y.sends(3);
        due("13 not looked at in between: not fresh", y.turn(2, 0), was + 200 * UNIT / 2);
        y.settings(3, 1);
        y.window(2, 0);
        y.sends(1);
        y.window(2, 500);
        y.settings(3, 0);
        y.moves(2, 0, 2, 0);
        due("13 moved to the floor", y.turn(2, 0), y.turn(0, 1));
        HungStreams z = Check.built("1:1 2:2");
        z.readies(1, 300);
        z.readies(2, 900);
        z.sends(3);
        z.window(1, 0);
        z.sends(3);
        z.window(1, 100);
        long floor = z.turn(0, 1);
        due("13 behind the floor", z.turn(1, 0) < floor ? 1 : 0, 1);
        z.settings(3, 1);
        z.sends(1);
        due("13 by scheme 1 too it is looked at, but none pays", z.turn(1, 0), floor);
        due("13 nor is the floor changed", z.turn(0, 1), floor);
    }

    // A FRAME that there is none of is looked at, too: behind it one is FRESH no more, or is so again.
    private static void triedInVain() {
        HungStreams x = Check.built("1:1 2:1");
        x.settings(1, 10);
        x.readies(1, 900);
        x.sends(3);
        x.settings(0, 0);
        x.readies(2, 900);
        due("13 no pool", x.sends(7), 0);
        due("13 raised all the same", x.turn(2, 0), 20 * UNIT);
        due("13 no waits", x.of(2, 9), 0);
        due("13 a state was left", x.told(9), 5);
        HungStreams y = Check.built("1:1 2:1");
        y.settings(1, 10);
        y.readies(1, 900);
        y.readies(2, 10);
        y.sends(6);
        y.readies(2, 10);
        y.sends(1);
        due("13 fresh again", y.turn(2, 0), 40 * UNIT + 10 * UNIT);
        HungStreams z = Check.built("1:1(2:1) 3:1");
        z.closes(1);
        due("13 nothing to send", z.sends(20), 0);
        due("13 none sent: nobody ages", z.of(1, 7), 0);
    }

    private static void urgencyScheme() {
        HungStreams x = Check.built("1:1 2:1(3:1(4:1)) 5:1 6:1");
        x.settings(3, 1);
        x.settings(1, 50);
        int[][] streams = {{1, 5, 0}, {2, 2, 1}, {3, 2, 1}, {4, 2, 1}, {5, 5, 0}, {6, 5, 1}};
        for (int[] s : streams) {
            x.sets(s[0], 1, s[1]);
            x.sets(s[0], 2, s[2]);
            x.readies(s[0], s[0] == 4 ? 150 : 100);
        }
        int[] order = {2, 3, 4, 2, 3, 4, 4, 1, 1, 5, 5, 6, 6};
        for (int i = 0; i < order.length; i++) {
            due("14 by urgency " + i, x.next(), order[i]);
            due("13 by urgency " + i, x.sends(1), 1);
            due("16 by urgency " + i, x.all(6), order[i]);
        }
        due("14 none", x.next(), HungStreams.NONE);
        due("13 none pays", x.turn(1, 0), 0);
        due("13 floor stays", x.turn(0, 1), 0);
        due("13 last of 4", x.of(4, 11), 7);
        x.sets(6, 1, 0);
        x.comes(7, 0, 1, 0);
        x.sets(7, 1, 0);
        x.sets(7, 2, 1);
        x.readies(6, 50);
        x.readies(7, 50);
        due("14 one that never sent is ahead", x.next(), 7);
    }

    private static void waits() {
        HungStreams x = Check.built("1:1 2:1 3:1");
        x.settings(3, 1);
        x.readies(1, 500);
        x.readies(2, 150);
        x.sets(3, 1, 0);
        x.sends(2);
        due("13 wait", x.of(2, 9), 2);
        due("13 who can not send does not wait", x.of(3, 9), 0);
        x.readies(3, 100);
        x.sends(1);
        due("13 its wait is 0", x.of(3, 9), 0);
        due("13 the others wait", x.of(1, 9), 1);
        x.window(2, 0);
        x.sends(1);
        due("13 a full window: no more wait", x.of(2, 9), 3);
        x.window(2, 100);
        x.sets(2, 1, 0);
        x.sends(1);
        due("13 wait at its turn", x.of(2, 9), 0);
        due("13 longest stays", x.of(2, 10), 3);
        due("16 all(4)", x.all(4), 3);
        x.settings(2, 0);
        x.closes(2);
        due("16 all(4) of those there", x.all(4), 1);
    }

    private static void nextChangesNothing() {
        HungStreams x = Check.built("1:3(2:1) 3:1");
        x.readies(3, 300);
        x.sends(2);
        x.readies(2, 100);
        long before = x.digest();
        for (int i = 0; i < 5; i++) {
            due("14 next()", x.next(), 2);
        }
        due("14 digest", x.digest(), before);
        x.settings(0, 0);
        due("14 no pool", x.next(), HungStreams.NONE);
    }

    // The streams at both ends of the numbers take part in all that goes over all of them.
    private static void firstAndLast() {
        HungStreams x = Check.built("5:1 1:1 12:1");
        x.readies(5, 900);
        x.sends(3);
        x.readies(1, 100);
        x.readies(12, 100);
        due("13 fresh first", x.sends(1), 1);
        due("13 fresh last was raised", x.turn(12, 0), 200 * UNIT);
        due("13 fresh first was raised and paid", x.turn(1, 0), 300 * UNIT);
        due("13 the last waits", x.of(12, 9), 1);
        x.back();
        x.settings(3, 1);
        x.sets(12, 1, 0);
        due("14 the last by urgency", x.next(), 12);
        x.sends(1);
        due("13 the first waits", x.of(1, 9), 1);
        x.sets(12, 1, 7);
        x.readies(12, 100);
        x.sends(3);
        due("16 all(4) of the last", x.all(4), 3);
        due("16 all(3)", x.all(3), 700);
        x.window(12, 1);
        due("6 a window of 1", x.of(12, 14), 1);
        due("16 a window of 1", x.all(1) >> 12, 1);
    }

    private static void deepestLine() {
        HungStreams x = Check.built("12:1(11:1(10:1(9:1(8:1(7:1(6:1(5:1(4:1(3:1(2:1(1:1)))))))))))");
        x.readies(1, 250);
        due("14 deepest", x.next(), 1);
        due("16 all are live", x.all(2), 8190);
        share(x, 1, 1, 1);
        due("9 deepest", x.common(1, 12), 12);
        due("9 deepest", x.common(12, 1), 12);
        due("13 deepest", x.sends(9), 3);
        due("7 the uppermost paid", x.turn(12, 0), 250 * UNIT);
        due("7 floor of the root", x.turn(0, 1), 200 * UNIT);
        due("3 the uppermost under the deepest", x.moves(12, 1, 16, 0), 1);
        due("7 its turn", x.turn(12, 0), 0);
        due("7 the deepest's turn", x.turn(1, 0), 200 * UNIT);
        due("6 below", x.of(1, 13), 11);
    }

    private static void share(HungStreams x, int s, long above, long below) {
        due("15 share(" + s + ", 0)", x.share(s, 0), above);
        due("15 share(" + s + ", 1)", x.share(s, 1), below);
    }

    private static void shares() {
        HungStreams x = Check.built("1:4(3:6 4:2 5:9) 2:8");
        x.readies(2, 10);
        x.readies(3, 10);
        x.readies(4, 10);
        share(x, 1, 1, 3);
        share(x, 2, 2, 3);
        share(x, 3, 1, 4);
        share(x, 4, 1, 12);
        share(x, 5, 0, 1);
        x.window(3, 0);
        share(x, 3, 0, 1);
        share(x, 4, 1, 3);
        x.readies(1, 10);
        share(x, 1, 1, 3);
        share(x, 4, 0, 1);
        x.settings(0, 0);
        x.settings(3, 1);
        share(x, 2, 2, 3);
        x.closes(2);
        share(x, 2, 0, 1);
        share(x, 1, 1, 1);
        int[][] bad = {{0, 0}, {6, 0}, {13, 1}, {-1, 0}, {1, 2}, {1, -1}};
        for (int[] b : bad) {
            due("15 share(" + b[0] + ", " + b[1] + ")", x.share(b[0], b[1]), -2);
        }
        due("15 told(0)", x.told(0), bad.length);
        due("15 a question leaves no state", x.told(9), 5);
    }

    private static void shareOfTheDeepest() {
        HungStreams x = Check.built("1:1(3:1(5:1(7:1(9:1(11:1 12:16) 10:16) 8:16) 6:16) 4:16) 2:16");
        for (int s = 2; s <= 12; s += 2) {
            x.readies(s, 1);
        }
        x.readies(11, 1);
        share(x, 11, 1, 17L * 17 * 17 * 17 * 17 * 17);
        share(x, 12, 16, 17L * 17 * 17 * 17 * 17 * 17);
    }

    private static void allEach() {
        HungStreams x = Check.built("1:1(12:1) 5:1");
        x.readies(12, 150);
        x.readies(5, 100);
        due("16 all(0)", x.all(0), 1 << 1 | 1 << 12 | 1 << 5);
        due("16 all(1)", x.all(1), 1 << 12 | 1 << 5);
        due("16 all(2)", x.all(2), 1 << 1 | 1 << 12 | 1 << 5);
        due("16 all(5) none yet", x.all(5), 0);
        due("16 all(6) none yet", x.all(6), HungStreams.NONE);
        x.sends(3);
        due("16 all(1)", x.all(1), 0);
        due("16 all(2)", x.all(2), 0);
        due("16 all(3)", x.all(3), 250);
        due("16 all(4)", x.all(4), 1);
        due("16 all(5)", x.all(5), 50);
        due("16 all(6)", x.all(6), 12);
        x.settings(2, 0);
        x.closes(12);
        due("16 all(3) of those there", x.all(3), 100);
        due("16 all(6) stays", x.all(6), 12);
        for (int what : new int[] {-1, 7, Integer.MIN_VALUE, Integer.MAX_VALUE}) {
            due("16 all(" + what + ")", x.all(what), HungStreams.BAD);
        }
        due("16 told(0)", x.told(0), 4);
    }
}
