/** The terms' sentences on FRAMES and SHARES, one test each: at their bounds, just inside and just outside. */
public final class EdgesFrameTermsTest {
    private static final long UNIT = Edges.UNIT;
    private static final int NONE = HungStreams.NONE;
    private static final Edges E = new Edges();

    public static void main(String[] args) {
        can();
        live();
        freshAgain();
        lookedAtWhenTried();
        freshWhoCame();
        greaterOfTurnAndFloor();
        poolEmpty();
        nobodyCan();
        leastTurn();
        floorBecomesTurn();
        firstThatCan();
        deepest();
        leastUrgency();
        notStepwise();
        leastLast();
        bytesBySize();
        bytesByPool();
        bytesByReady();
        bytesByWindow();
        lessAndMore();
        turnsOnTheWay();
        turnsByEachWeight();
        lastIsFrames();
        waits();
        longest();
        ownWait();
        ages();
        noShare();
        shares();
        lowestTerms();
        E.end();
    }

    /** STREAMS 1 to 3 beside one another, all READY, SIZE 10. */
    private static HungStreams three(String tree) {
        HungStreams x = Check.built(tree);
        x.settings(1, 10);
        for (int s = 1; s <= 3; s++) {
            x.readies(s, 500);
        }
        return x;
    }

    private static void senders(HungStreams x, int... order) {
        for (int i = 0; i < order.length; i++) {
            E.due("next() " + i, x.next(), order[i]);
            x.sends(1);
            E.due("all(6) " + i, x.all(6), order[i]);
        }
    }

    private static void can() {
        E.says(0, "A STREAM CAN, if it is OPEN and READY and WINDOW are above 0.");
        HungStreams x = Check.built("1:1");
        E.due("READY 0", x.of(1, 14), 0);
        x.readies(1, 1);
        E.due("READY 1", x.of(1, 14), 1);
        x.window(1, 0);
        E.due("WINDOW 0", x.of(1, 14), 0);
        E.due("WINDOW 0, next()", x.next(), NONE);
        x.window(1, 1);
        E.due("WINDOW 1", x.of(1, 14), 1);
        E.due("WINDOW 1, next()", x.next(), 1);
        x.closes(1);
        E.due("CLOSED", x.of(1, 14), 0);
        E.due("CLOSED, all(1)", x.all(1), 0);
    }

    private static void live() {
        E.says(0, "LIVE: it CAN, or one BELOW it CAN.");
        HungStreams x = Check.built("12:1(11:1(10:1(1:1) 9:1)) 2:1");
        x.readies(10, 1);
        int[] due = {0, 0, 0, 0, 0, 0, 0, 0, 0, 0, 1, 1, 1};
        for (int s : new int[] {1, 2, 9, 10, 11, 12}) {
            E.due("of(" + s + ", 15)", x.of(s, 15), due[s]);
        }
        x.closes(12);
        x.closes(11);
        E.due("CLOSED ones, too", x.all(2), 7 << 10);
        x.window(10, 0);
        E.due("nobody", x.all(2), 0);
    }

    private static void freshAgain() {
        E.says(0, "FRESH: LIVE, and not LIVE when this was looked at last");
        HungStreams x = three("1:1 2:1 3:1");
        x.window(2, 0);
        x.sends(4);
        E.due("not LIVE: its TURN stays", x.turn(2, 0), 0);
        x.window(2, 20);
        x.sends(1);
        E.due("LIVE again: from the FLOOR on", x.turn(2, 0), 20 * UNIT);
        E.due("FLOOR", x.turn(0, 1), 10 * UNIT);
        x.sends(1);
        E.due("LIVE still", x.turn(2, 0), 20 * UNIT);
    }

    // A FRAME that there is none of is tried, too.
    private static void lookedAtWhenTried() {
        E.says(0, "(it is looked at as the first thing of each FRAME that is tried");
        HungStreams x = three("1:1 2:1 3:1");
        x.window(2, 0);
        x.sends(4);
        x.settings(0, 0);
        x.window(2, 20);
        E.due("none is sent", x.sends(1), 0);
        E.due("raised all the same", x.turn(2, 0), 10 * UNIT);
        HungStreams y = three("1:1 2:1 3:1");
        y.window(2, 0);
        y.sends(4);
        y.window(2, 20);
        y.next();
        y.of(2, 15);
        y.all(2);
        y.share(2, 0);
        y.digest();
        E.due("questions try none", y.turn(2, 0), 0);
    }

    private static void freshWhoCame() {
        E.says(0, "one that came since was not LIVE).");
        HungStreams x = three("1:1 2:1 3:1");
        x.settings(2, 0);
        x.sends(6);
        x.closes(2);
        x.comes(2, 0, 1, 0);
        E.due("it begins at the FLOOR", x.turn(2, 0), 10 * UNIT);
        x.sends(2);
        x.readies(2, 50);
        x.sends(1);
        E.due("FLOOR", x.turn(0, 1), 20 * UNIT);
        E.due("FRESH", x.turn(2, 0), 30 * UNIT);
    }

    private static void greaterOfTurnAndFloor() {
        E.says(0, "each FRESH one, the least first, has TURN the greater of its TURN and the FLOOR of its PARENT.");
        HungStreams x = Check.built("1:16 2:1");
        x.readies(1, 900);
        x.readies(2, 900);
        x.sends(2);
        E.due("TURN of 2", x.turn(2, 0), 100 * UNIT);
        x.window(2, 0);
        x.sends(2);
        x.window(2, 500);
        x.sends(1);
        E.due("TURN was greater", x.turn(2, 0), 100 * UNIT);
        HungStreams y = Check.built("9:1(1:1 12:1) 5:1");
        y.readies(5, 300);
        y.sends(3);
        y.readies(1, 300);
        y.readies(12, 300);
        y.settings(0, 0);
        y.sends(1);
        E.due("FLOOR was greater", y.turn(9, 0), 200 * UNIT);
        E.due("FLOOR of its PARENT, not of THE ROOT", y.turn(1, 0), 0);
        HungStreams z = Check.built("5:1 1:1 12:1");
        z.readies(5, 300);
        z.sends(3);
        z.readies(1, 300);
        z.readies(12, 300);
        z.settings(3, 1);
        z.sends(1);
        E.due("by SCHEME 1, the first STREAM", z.turn(1, 0), 200 * UNIT);
        E.due("by SCHEME 1, the last STREAM", z.turn(12, 0), 200 * UNIT);
    }

    private static void poolEmpty() {
        E.says(0, "If POOL is 0");
        for (int scheme = 0; scheme <= 1; scheme++) {
            HungStreams x = three("1:1 2:1 3:1");
            x.settings(3, scheme);
            x.settings(0, 0);
            E.due("next()", x.next(), NONE);
            E.due("sends(100)", x.sends(100), 0);
            E.due("FRAMES", x.told(8), 0);
            E.due("WAIT", x.of(2, 9), 0);
            x.settings(0, 1);
            E.due("POOL 1, next()", x.next(), 1);
            E.due("POOL 1", x.sends(100), 1);
            E.due("POOL then", x.told(4), 0);
        }
    }

    private static void nobodyCan() {
        E.says(0, "or no STREAM CAN, there is none.");
        for (int scheme = 0; scheme <= 1; scheme++) {
            HungStreams x = new HungStreams();
            x.settings(3, scheme);
            E.due("no STREAM, next()", x.next(), NONE);
            E.due("no STREAM", x.sends(1), 0);
            x.comes(1, 0, 1, 0);
            E.due("nothing READY, next()", x.next(), NONE);
            E.due("nothing READY", x.sends(1), 0);
            x.readies(1, 1);
            x.window(1, 0);
            E.due("no WINDOW, next()", x.next(), NONE);
            E.due("no WINDOW", x.sends(1), 0);
            x.closes(1);
            E.due("CLOSED", x.sends(1), 0);
            E.due("AGE", x.of(1, 7), 0);
            E.due("FRAMES", x.told(8), 0);
        }
    }

    private static void leastTurn() {
        E.says(0, "the LIVE one of the least TURN among the CHILDREN, of like ones the least, is taken");
        senders(three("1:1 2:2 3:4"), 1, 2, 3, 3, 2, 3, 3, 1);
        HungStreams x = Check.built("12:1(11:1 10:1) 9:1");
        x.readies(11, 100);
        E.due("10 has the like TURN, but is not LIVE", x.next(), 11);
        x.readies(10, 100);
        E.due("of like ones the least", x.next(), 10);
        x.readies(9, 100);
        E.due("at THE ROOT first", x.next(), 9);
    }

    private static void floorBecomesTurn() {
        E.says(0, "FLOOR of their PARENT becomes its TURN");
        HungStreams x = Check.built("1:2(2:5) 3:1");
        x.readies(2, 500);
        x.sends(1);
        E.due("its TURN ahead of the FRAME", x.turn(0, 1), 0);
        x.sends(1);
        E.due("THE ROOT", x.turn(0, 1), 100 * UNIT / 2);
        E.due("a STREAM", x.turn(1, 1), 100 * UNIT / 5);
        E.due("not the last's own", x.turn(2, 1), 0);
        x.settings(3, 1);
        x.sends(2);
        E.due("not by SCHEME 1", x.turn(0, 1), 100 * UNIT / 2);
    }

    private static void firstThatCan() {
        E.says(0, "it ends with the first that CAN.");
        HungStreams x = Check.built("1:1(2:1(3:1))");
        x.readies(3, 100);
        x.readies(2, 50);
        x.readies(1, 50);
        senders(x, 1);
        E.due("what hangs on it pays nothing", x.turn(2, 0), 0);
        senders(x, 2);
        E.due("nor here", x.turn(3, 0), 0);
        senders(x, 3);
        HungStreams y = Check.built("1:1(2:1)");
        y.readies(1, 200);
        y.readies(2, 200);
        y.window(1, 0);
        E.due("a full WINDOW lends its share", y.next(), 2);
        y.window(1, 1);
        E.due("one that is not", y.next(), 1);
        y.closes(1);
        E.due("CLOSED", y.next(), 2);
    }

    // Twelve hang on one another: each is on the way.
    private static void deepest() {
        E.says(0, "from THE ROOT on, again and again");
        HungStreams x = Check.built("12:1(11:1(10:1(9:1(8:1(7:1(6:1(5:1(4:1(3:1(2:1(1:16)))))))))))");
        x.readies(1, 200);
        senders(x, 1, 1);
        E.due("TURN of the last", x.turn(1, 0), 200 * UNIT / 16);
        for (int s = 2; s <= 12; s++) {
            E.due("TURN of " + s, x.turn(s, 0), 200 * UNIT);
            E.due("FLOOR of " + s, x.turn(s, 1), s == 2 ? 100 * UNIT / 16 : 100 * UNIT);
        }
        E.due("FLOOR of THE ROOT", x.turn(0, 1), 100 * UNIT);
    }

    private static void leastUrgency() {
        E.says(0, "By SCHEME 1: of those that CAN those of the least URGENCY");
        HungStreams x = three("1:1(2:1) 3:1");
        x.settings(3, 1);
        x.sets(1, 1, 7);
        x.sets(2, 1, 0);
        x.sets(3, 1, 1);
        E.due("0", x.next(), 2);
        x.window(2, 0);
        E.due("it can not", x.next(), 3);
        x.window(3, 0);
        E.due("7", x.next(), 1);
        x.window(2, 9);
        x.sets(2, 2, 1);
        E.due("though it is STEPWISE", x.next(), 2);
        HungStreams y = Check.built("1:1 12:1");
        y.settings(3, 1);
        y.readies(1, 1);
        y.readies(12, 1);
        E.due("the first STREAM", y.next(), 1);
        y.sets(1, 1, 4);
        E.due("the last STREAM", y.next(), 12);
    }

    private static void notStepwise() {
        E.says(0, "of them, if any is not STEPWISE, the least that is not");
        HungStreams x = three("1:1 2:1 3:1");
        x.settings(3, 1);
        senders(x, 1, 1);
        x.sets(1, 2, 1);
        senders(x, 2, 2);
        x.sets(2, 2, 1);
        senders(x, 3, 3);
        x.sets(2, 2, 0);
        senders(x, 2);
        x.sets(1, 2, 0);
        x.sets(2, 2, 1);
        senders(x, 1, 1);
    }

    private static void leastLast() {
        E.says(0, "else the one with the least LAST (NONE the least), of like ones the least.");
        HungStreams x = three("1:1 2:1 3:1");
        x.settings(3, 1);
        for (int s = 1; s <= 3; s++) {
            x.sets(s, 2, 1);
        }
        senders(x, 1, 2, 3, 1, 2);
        x.comes(4, 0, 1, 0);
        x.comes(5, 0, 1, 0);
        for (int s = 4; s <= 5; s++) {
            x.sets(s, 2, 1);
            x.readies(s, 500);
        }
        senders(x, 4, 5, 3, 1, 2, 4);
    }

    private static HungStreams one(int size, int pool, int ready, int window) {
        HungStreams x = Check.built("1:1");
        x.settings(1, size);
        x.settings(0, pool);
        x.readies(1, ready);
        x.window(1, window);
        return x;
    }

    private static void bytes(int size, int pool, int ready, int window, int bytes) {
        for (int scheme = 0; scheme <= 1; scheme++) {
            HungStreams x = one(size, pool, ready, window);
            x.settings(3, scheme);
            E.due("sends(1)", x.sends(1), 1);
            E.due("BYTES", x.all(5), bytes);
        }
    }

    private static void bytesBySize() {
        E.says(0, "BYTES: the least of SIZE");
        bytes(1, 99999, 9999, 9999, 1);
        bytes(999, 99999, 9999, 9999, 999);
        bytes(7, 8, 8, 8, 7);
    }

    private static void bytesByPool() {
        E.says(0, "BYTES: the least of SIZE, POOL");
        bytes(999, 1, 9999, 9999, 1);
        bytes(8, 7, 8, 8, 7);
    }

    private static void bytesByReady() {
        E.says(0, "BYTES: the least of SIZE, POOL, its READY");
        bytes(999, 99999, 1, 9999, 1);
        bytes(8, 8, 7, 8, 7);
    }

    private static void bytesByWindow() {
        E.says(0, "BYTES: the least of SIZE, POOL, its READY, its WINDOW.");
        bytes(999, 99999, 9999, 1, 1);
        bytes(8, 8, 8, 7, 7);
    }

    private static void lessAndMore() {
        E.says(0, "POOL, READY and WINDOW are less by BYTES, SENT more");
        HungStreams x = one(7, 7, 7, 7);
        x.sends(1);
        E.due("POOL", x.told(4), 0);
        E.due("READY", x.of(1, 2), 0);
        E.due("WINDOW", x.of(1, 3), 0);
        E.due("SENT", x.of(1, 8), 7);
        HungStreams y = one(7, 20, 30, 40);
        y.sends(2);
        E.due("POOL", y.told(4), 6);
        E.due("READY", y.of(1, 2), 16);
        E.due("WINDOW", y.of(1, 3), 26);
        E.due("SENT", y.of(1, 8), 14);
    }

    private static void turnsOnTheWay() {
        E.says(0, "by SCHEME 0 TURN of each that was taken on the way (the last, too) is BYTES times 720720 by its WEIGHT "
            + "more");
        HungStreams x = Check.built("1:16(2:7(3:13)) 4:1(5:1)");
        x.readies(3, 200);
        x.settings(1, 1);
        x.sends(1);
        E.due("1", x.turn(1, 0), 45045);
        E.due("2", x.turn(2, 0), 102960);
        E.due("3", x.turn(3, 0), 55440);
        E.due("not what is beside", x.turn(4, 0) + x.turn(5, 0), 0);
        x.settings(3, 1);
        x.sends(5);
        E.due("not by SCHEME 1", x.turn(3, 0), 55440);
    }

    private static void turnsByEachWeight() {
        E.says(0, "is BYTES times 720720 by its WEIGHT more");
        for (int weight = 1; weight <= 16; weight++) {
            HungStreams x = new HungStreams();
            x.comes(1, 0, weight, 0);
            x.settings(1, 999);
            x.readies(1, 999);
            x.sends(1);
            E.due("WEIGHT " + weight, x.turn(1, 0) * weight, 999 * UNIT);
        }
    }

    private static void lastIsFrames() {
        E.says(0, "(both schemes: FRAMES 1 more, then LAST of it FRAMES).");
        for (int scheme = 0; scheme <= 1; scheme++) {
            HungStreams x = three("1:1 2:1 3:1");
            x.settings(3, scheme);
            E.due("LAST of none", x.of(1, 11), NONE);
            x.sends(1);
            E.due("FRAMES", x.told(8), 1);
            E.due("LAST", x.of(1, 11), 1);
            E.due("LAST of the others", x.of(2, 11), NONE);
            x.sends(100);
            E.due("FRAMES", x.told(8), 101);
            E.due("LAST of one", x.of(x.all(6), 11), 101);
        }
    }

    private static void waits() {
        E.says(0, "Of all others that COULD when it was looked at WAIT is 1 more");
        for (int scheme = 0; scheme <= 1; scheme++) {
            HungStreams x = three("1:1(12:1) 2:1 3:1");
            x.settings(3, scheme);
            x.readies(12, 10);
            x.window(3, 0);
            x.sends(1);
            E.due("who could", x.of(2, 9), 1);
            E.due("who could, the last STREAM", x.of(12, 9), 1);
            E.due("who could not", x.of(3, 9), 0);
            x.window(2, 0);
            x.sends(1);
            E.due("who could, but can not", x.of(2, 9), 1);
        }
        HungStreams y = three("1:1(12:1) 2:1 3:1");
        y.settings(0, 0);
        y.sends(1);
        E.due("none is sent: nobody", y.of(2, 9), 0);
    }

    private static void longest() {
        E.says(0, "LONGEST is told anew (the greatest that WAIT was)");
        HungStreams x = three("1:1 2:1 3:1");
        x.settings(3, 1);
        x.sends(3);
        E.due("it grows", x.of(2, 10), 3);
        x.sets(2, 1, 0);
        x.sends(1);
        E.due("it stays", x.of(2, 10), 3);
        x.sets(2, 1, 7);
        x.sends(3);
        E.due("WAIT is the like", x.of(2, 9), 3);
        E.due("it stays", x.of(2, 10), 3);
        x.sends(1);
        E.due("it grows again", x.of(2, 10), 4);
        E.due("who sends has none", x.of(1, 10), 1);
    }

    private static void ownWait() {
        E.says(0, "its own WAIT is 0.");
        HungStreams x = three("1:1 2:1 3:1");
        x.sends(1);
        E.due("WAIT of 2", x.of(2, 9), 1);
        x.sends(1);
        E.due("it sent", x.of(2, 9), 0);
        E.due("LONGEST", x.of(2, 10), 1);
        E.due("WAIT of 1", x.of(1, 9), 1);
        E.due("WAIT of 3", x.of(3, 9), 2);
    }

    private static void ages() {
        E.says(0, "AGE of each CLOSED one is 1 more; then those that GO.");
        for (int scheme = 0; scheme <= 1; scheme++) {
            HungStreams x = three("4:1(12:1) 1:1 2:1 3:1");
            x.settings(3, scheme);
            x.settings(2, 3);
            x.closes(12);
            x.sends(1);
            x.closes(4);
            x.closes(1);
            x.sends(1);
            E.due("the last STREAM", x.of(12, 7), 2);
            E.due("CLOSED later", x.of(4, 7), 1);
            E.due("the first STREAM", x.of(1, 7), 1);
            E.due("OPEN", x.of(2, 7), 0);
            x.sends(1);
            E.due("then it GOES", x.all(0), 1 << 1 | 1 << 2 | 1 << 3 | 1 << 4);
            x.sends(1);
            E.due("then they GO", x.all(0), 1 << 2 | 1 << 3);
        }
    }

    private static void share(HungStreams x, int s, long above, long below) {
        E.due("share(" + s + ", 0)", x.share(s, 0), above);
        E.due("share(" + s + ", 1)", x.share(s, 1), below);
    }

    private static void noShare() {
        E.says(0, "SHARE of a STREAM: 0, if it is not LIVE now or one that it is BELOW CAN");
        HungStreams x = Check.built("1:1(2:1(3:1)) 4:1");
        share(x, 1, 0, 1);
        x.readies(3, 1);
        share(x, 3, 1, 1);
        share(x, 4, 0, 1);
        x.readies(2, 1);
        share(x, 3, 0, 1);
        share(x, 2, 1, 1);
        x.readies(1, 1);
        share(x, 3, 0, 1);
        share(x, 2, 0, 1);
        share(x, 1, 1, 1);
        x.window(2, 0);
        share(x, 3, 0, 1);
        x.window(1, 0);
        share(x, 3, 1, 1);
        x.window(3, 0);
        share(x, 3, 0, 1);
    }

    private static void shares() {
        E.says(0, "else, for it and all that it is BELOW but THE ROOT, WEIGHT by the WEIGHTS of all LIVE CHILDREN of its "
            + "PARENT together, times one another");
        HungStreams x = Check.built("1:3(3:5 4:6 5:16) 2:11(6:1)");
        x.readies(3, 1);
        x.readies(4, 1);
        share(x, 3, 5, 11);
        x.readies(6, 1);
        share(x, 1, 3, 14);
        share(x, 2, 11, 14);
        share(x, 3, 3 * 5, 14 * 11);
    }

    private static void lowestTerms() {
        E.says(0, "in lowest terms (0 by 1).");
        HungStreams x = Check.built("1:4(2:16(3:6)) 4:12");
        share(x, 1, 0, 1);
        x.readies(3, 1);
        share(x, 3, 1, 1);
        x.readies(4, 1);
        share(x, 3, 1, 4);
        share(x, 4, 3, 4);
        HungStreams y = Check.built("12:16(11:16(10:16(9:16(8:16(7:16(6:16(5:16(4:16(3:16(2:16(1:16)))))))))))");
        y.readies(1, 1);
        share(y, 1, 1, 1);
        HungStreams z = Check.built("1:1(3:1(5:1(7:1(9:1(11:1 12:16) 10:16) 8:16) 6:16) 4:16) 2:16");
        for (int s = 2; s <= 12; s += 2) {
            z.readies(s, 1);
        }
        z.readies(11, 1);
        share(z, 11, 1, 17L * 17 * 17 * 17 * 17 * 17);
    }
}
