/** Streams that hang on one another in a tree of weights. DOC.md says what each call promises. */
public final class HungStreams {
    public static final int NONE = -1, BAD = -2, NO = -3, FULL = -4;

    private static final int STREAMS = 12;
    private static final int MOST_WEIGHT = 16;
    private static final int MOST_BYTES = 9999;
    private static final int MOST_TRIES = 100;
    private static final int MOST_STATES = 5;
    private static final int MOST_TYPED = 120;
    private static final int MOST_BYTE = 127;
    private static final int FAULT_BASE = -10;
    private static final int GCD_STEPS = 200;

    // Each WEIGHT 1 .. 16 divides it, so no TURN is ever cut.
    private static final long TURN_UNIT = 720720L;

    private static final int[] LEAST_SET = {1, 0, 0};
    private static final int[] MOST_SET = {16, 7, 1};
    private static final int[] LEAST_SETTING = {0, 1, 0, 0};
    private static final int[] MOST_SETTING = {99999, 999, 50, 1};

    private final Tree tree;
    private final Tree[] states;
    private int oldestState;
    private int stateCount;
    private final TypedText text;
    private final TreeWriter writer;
    private int badTimes;
    private int noTimes;
    private int fullTimes;

    public HungStreams() {
        tree = new Tree();
        states = new Tree[MOST_STATES];
        for (int i = 0; i < MOST_STATES; i++) {
            states[i] = new Tree();
        }
        text = new TypedText();
        writer = new TreeWriter();
    }

    // ---- the tree

    public int comes(int s, int p, int w, int alone) {
        if (!within(s, 1, STREAMS) || !tree.isNode(p) || !within(w, 1, MOST_WEIGHT) || !within(alone, 0, 1)) {
            return refuse(BAD);
        }
        if (tree.isThere(s)) {
            return refuse(NO);
        }
        leaveState();
        tree.enter(s, w);
        tree.attach(s, p, alone == 1);
        return tree.childCount(s);
    }

    public int moves(int s, int p, int w, int alone) {
        if (!tree.isThere(s) || !tree.isNode(p) || p == s || !within(w, 1, MOST_WEIGHT) || !within(alone, 0, 1)) {
            return refuse(BAD);
        }
        leaveState();
        if (tree.isBelow(p, s)) {
            tree.hang(p, tree.streams[s].parent);
        }
        tree.streams[s].weight = w;
        tree.attach(s, p, alone == 1);
        return tree.childCount(s);
    }

    public int sets(int s, int what, int v) {
        if (!tree.isThere(s) || !within(what, 0, 2) || !within(v, LEAST_SET[what], MOST_SET[what])) {
            return refuse(BAD);
        }
        leaveState();
        return tree.streams[s].change(what, v);
    }

    public int closes(int s) {
        if (!tree.isThere(s)) {
            return refuse(BAD);
        }
        if (!tree.streams[s].open) {
            return refuse(NO);
        }
        leaveState();
        tree.streams[s].open = false;
        tree.streams[s].ready = 0;
        tree.letGo();
        return Integer.bitCount(tree.there);
    }

    public int of(int s, int what) {
        if (!tree.isThere(s) || !within(what, 0, 15)) {
            return refuse(BAD);
        }
        switch (what) {
            case 12:
                return tree.childCount(s);
            case 13:
                return tree.belowCount(s);
            case 14:
                return tree.streams[s].can() ? 1 : 0;
            case 15:
                return has(tree.liveBits(tree.canBits()), s) ? 1 : 0;
            default:
                return tree.streams[s].held(what);
        }
    }

    public long turn(int s, int what) {
        if (what == 0 && tree.isThere(s)) {
            return tree.streams[s].turn;
        }
        if (what == 1 && tree.isNode(s)) {
            return tree.streams[s].floor;
        }
        return refuse(BAD);
    }

    public int child(int s, int i) {
        if (!tree.isNode(s) || i < 0) {
            return refuse(BAD);
        }
        return tree.childAt(s, i);
    }

    public int common(int s, int t) {
        if (!tree.isThere(s) || !tree.isThere(t)) {
            return refuse(BAD);
        }
        return tree.deepestShared(s, t);
    }

    // ---- bytes

    public int readies(int s, int v) {
        if (!tree.isThere(s) || !within(v, 1, MOST_BYTES)) {
            return refuse(BAD);
        }
        Stream stream = tree.streams[s];
        if (!stream.open || stream.ready + v > MOST_BYTES) {
            return refuse(NO);
        }
        leaveState();
        stream.ready += v;
        return stream.ready;
    }

    public int window(int s, int v) {
        if (!tree.isThere(s) || !within(v, 0, MOST_BYTES)) {
            return refuse(BAD);
        }
        leaveState();
        int was = tree.streams[s].window;
        tree.streams[s].window = v;
        return was;
    }

    public int settings(int what, int v) {
        if (!within(what, 0, 3) || !within(v, LEAST_SETTING[what], MOST_SETTING[what])) {
            return refuse(BAD);
        }
        leaveState();
        return tree.changeSetting(what, v);
    }

    public int sends(int n) {
        if (!within(n, 1, MOST_TRIES)) {
            return refuse(BAD);
        }
        leaveState();
        int sent = 0;
        while (sent < n && Frames.tryOne(tree)) {
            sent++;
        }
        return sent;
    }

    public int next() {
        int can = tree.canBits();
        return Frames.sender(tree, can, tree.liveBits(can));
    }

    public long share(int s, int what) {
        if (!tree.isThere(s) || !within(what, 0, 1)) {
            return refuse(BAD);
        }
        return Shares.term(tree, s, what == 0);
    }

    public int all(int what) {
        switch (what) {
            case 0:
                return tree.there;
            case 1:
                return tree.canBits();
            case 2:
                return tree.liveBits(tree.canBits());
            case 3:
                return tree.sentTogether();
            case 4:
                return tree.greatestLongest();
            case 5:
                return tree.lastBytes;
            case 6:
                return tree.lastStream;
            default:
                return refuse(BAD);
        }
    }

    // ---- texts

    public int type(int c) {
        if (!within(c, 0, MOST_BYTE)) {
            return refuse(BAD);
        }
        if (text.length >= MOST_TYPED) {
            return refuse(FULL);
        }
        text.append(c);
        return text.length;
    }

    public int clear() {
        int had = text.length;
        text.length = 0;
        return had;
    }

    public int builds() {
        int fault = text.read();
        if (fault != NONE) {
            return FAULT_BASE - fault;
        }
        leaveState();
        tree.empty();
        for (int i = 0; i < text.count; i++) {
            tree.enter(text.numbers[i], text.weights[i]);
            tree.hang(text.numbers[i], text.parents[i]);
        }
        return text.count;
    }

    public int shown(int i) {
        if (i < 0) {
            return refuse(BAD);
        }
        writer.write(tree);
        return i < writer.length ? writer.bytes[i] : NONE;
    }

    public int back() {
        if (stateCount == 0) {
            return refuse(NO);
        }
        stateCount--;
        tree.copyFrom(states[(oldestState + stateCount) % MOST_STATES]);
        return stateCount;
    }

    public int told(int what) {
        switch (what) {
            case 0:
                return badTimes;
            case 1:
                return noTimes;
            case 2:
                return fullTimes;
            case 3:
                return text.length;
            case 4:
                return tree.pool;
            case 5:
                return tree.size;
            case 6:
                return tree.keep;
            case 7:
                return tree.scheme;
            case 8:
                return tree.frames;
            case 9:
                return stateCount;
            default:
                return refuse(BAD);
        }
    }

    public long digest() {
        long h = 2311;
        for (int what = 0; what <= 9; what++) {
            h = 31 * h + told(what);
        }
        for (int what = 0; what <= 6; what++) {
            h = 31 * h + all(what);
        }
        for (int s = 1; s <= STREAMS; s++) {
            if (tree.isThere(s)) {
                h = digestStream(h, s);
            }
        }
        h = 31 * h + turn(0, 1);
        return 31 * h + next();
    }

    private long digestStream(long before, int s) {
        long h = 31 * before + s;
        for (int what = 0; what <= 15; what++) {
            h = 31 * h + of(s, what);
        }
        h = 31 * h + turn(s, 0);
        return 31 * h + turn(s, 1);
    }

    private int refuse(int why) {
        if (why == BAD) {
            badTimes++;
        } else if (why == NO) {
            noTimes++;
        } else {
            fullTimes++;
        }
        return why;
    }

    // Must come ahead of the first change that a call makes: it keeps what the call can be taken back to.
    private void leaveState() {
        if (stateCount == MOST_STATES) {
            oldestState = (oldestState + 1) % MOST_STATES;
            stateCount--;
        }
        states[(oldestState + stateCount) % MOST_STATES].copyFrom(tree);
        stateCount++;
    }

    private static boolean within(int v, int least, int most) {
        return v >= least && v <= most;
    }

    private static boolean has(int bits, int s) {
        return (bits >> s & 1) == 1;
    }

    // No divisor here can be 0 by the document's bounds; the test keeps the machine from ever throwing.
    private static long cut(long above, long below) {
        return below < 1 ? 0 : above / below;
    }

    /** One STREAM; of THE ROOT only the FLOOR is used. */
    private static final class Stream {
        int parent;
        int weight;
        int ready;
        int window;
        int urgency;
        int stepwise;
        boolean open;
        int age;
        int sent;
        int waited;
        int longest;
        int last;
        long turn;
        long floor;

        void begin(int w) {
            parent = 0;
            weight = w;
            ready = 0;
            window = 1000;
            urgency = 3;
            stepwise = 0;
            open = true;
            age = 0;
            sent = 0;
            waited = 0;
            longest = 0;
            last = NONE;
            turn = 0;
            floor = 0;
        }

        void copyFrom(Stream other) {
            parent = other.parent;
            weight = other.weight;
            ready = other.ready;
            window = other.window;
            urgency = other.urgency;
            stepwise = other.stepwise;
            open = other.open;
            age = other.age;
            sent = other.sent;
            waited = other.waited;
            longest = other.longest;
            last = other.last;
            turn = other.turn;
            floor = other.floor;
        }

        boolean can() {
            return open && ready > 0 && window > 0;
        }

        int held(int what) {
            switch (what) {
                case 0:
                    return parent;
                case 1:
                    return weight;
                case 2:
                    return ready;
                case 3:
                    return window;
                case 4:
                    return urgency;
                case 5:
                    return stepwise;
                case 6:
                    return open ? 1 : 0;
                case 7:
                    return age;
                case 8:
                    return sent;
                case 9:
                    return waited;
                case 10:
                    return longest;
                default:
                    return last;
            }
        }

        int change(int what, int v) {
            int was;
            if (what == 0) {
                was = weight;
                weight = v;
            } else if (what == 1) {
                was = urgency;
                urgency = v;
            } else {
                was = stepwise;
                stepwise = v;
            }
            return was;
        }

        void waitOnce() {
            waited++;
            longest = Math.max(longest, waited);
        }
    }

    /** All that a STATE holds. Sets of STREAMS are bits, bit s for STREAM s. */
    private static final class Tree {
        final Stream[] streams;
        int there;
        // Who was LIVE when it was looked at last; a bit of one that is there no more means nothing.
        int lived;
        int pool;
        int size;
        int keep;
        int scheme;
        int frames;
        int lastBytes;
        int lastStream;

        Tree() {
            streams = new Stream[STREAMS + 1];
            for (int s = 0; s <= STREAMS; s++) {
                streams[s] = new Stream();
            }
            pool = 10000;
            size = 100;
            keep = 10;
            lastStream = NONE;
        }

        void copyFrom(Tree other) {
            for (int s = 0; s <= STREAMS; s++) {
                streams[s].copyFrom(other.streams[s]);
            }
            there = other.there;
            lived = other.lived;
            pool = other.pool;
            size = other.size;
            keep = other.keep;
            scheme = other.scheme;
            frames = other.frames;
            lastBytes = other.lastBytes;
            lastStream = other.lastStream;
        }

        boolean isThere(int s) {
            return within(s, 1, STREAMS) && has(there, s);
        }

        boolean isNode(int s) {
            return s == 0 || isThere(s);
        }

        boolean isChild(int s, int p) {
            return has(there, s) && streams[s].parent == p;
        }

        int childCount(int p) {
            int count = 0;
            for (int s = 1; s <= STREAMS; s++) {
                if (isChild(s, p)) {
                    count++;
                }
            }
            return count;
        }

        int childAt(int p, int i) {
            int ahead = 0;
            for (int s = 1; s <= STREAMS; s++) {
                if (isChild(s, p)) {
                    if (ahead == i) {
                        return s;
                    }
                    ahead++;
                }
            }
            return NONE;
        }

        // The WEIGHTS of those CHILDREN of p together that are among the bits.
        int childWeights(int p, int among) {
            int together = 0;
            for (int s = 1; s <= STREAMS; s++) {
                if (has(among, s) && isChild(s, p)) {
                    together += streams[s].weight;
                }
            }
            return together;
        }

        // s itself and all that it is BELOW but THE ROOT.
        int lineBits(int s) {
            int line = 0;
            int at = s;
            for (int step = 0; step < STREAMS && at != 0; step++) {
                line |= 1 << at;
                at = streams[at].parent;
            }
            return line;
        }

        boolean isBelow(int s, int top) {
            return s != top && has(lineBits(s), top);
        }

        int belowCount(int top) {
            int count = 0;
            for (int s = 1; s <= STREAMS; s++) {
                if (has(there, s) && isBelow(s, top)) {
                    count++;
                }
            }
            return count;
        }

        int deepestShared(int s, int t) {
            int line = lineBits(t);
            int at = s;
            for (int step = 0; step < STREAMS && at != 0 && !has(line, at); step++) {
                at = streams[at].parent;
            }
            return at;
        }

        int canBits() {
            int can = 0;
            for (int s = 1; s <= STREAMS; s++) {
                if (has(there, s) && streams[s].can()) {
                    can |= 1 << s;
                }
            }
            return can;
        }

        int liveBits(int can) {
            int live = 0;
            for (int s = 1; s <= STREAMS; s++) {
                if (has(can, s) && !has(live, s)) {
                    live |= lineBits(s);
                }
            }
            return live;
        }

        int sentTogether() {
            int together = 0;
            for (int s = 1; s <= STREAMS; s++) {
                if (has(there, s)) {
                    together += streams[s].sent;
                }
            }
            return together;
        }

        int greatestLongest() {
            int greatest = 0;
            for (int s = 1; s <= STREAMS; s++) {
                if (has(there, s)) {
                    greatest = Math.max(greatest, streams[s].longest);
                }
            }
            return greatest;
        }

        void enter(int s, int w) {
            streams[s].begin(w);
            there |= 1 << s;
            lived &= ~(1 << s);
        }

        void hang(int s, int p) {
            streams[s].parent = p;
            streams[s].turn = streams[p].floor;
        }

        void attach(int s, int p, boolean alone) {
            if (alone) {
                hangChildren(p, s);
            }
            hang(s, p);
        }

        void hangChildren(int from, int to) {
            for (int s = 1; s <= STREAMS; s++) {
                if (s != to && isChild(s, from)) {
                    hang(s, to);
                }
            }
        }

        int changeSetting(int what, int v) {
            int was;
            if (what == 0) {
                was = pool;
                pool = v;
            } else if (what == 1) {
                was = size;
                size = v;
            } else if (what == 2) {
                was = keep;
                keep = v;
                letGo();
            } else {
                was = scheme;
                scheme = v;
            }
            return was;
        }

        void letGo() {
            for (int s = 1; s <= STREAMS; s++) {
                if (has(there, s) && !streams[s].open && streams[s].age >= keep) {
                    leave(s);
                }
            }
        }

        void leave(int s) {
            int own = streams[s].weight;
            int together = childWeights(s, there);
            for (int c = 1; c <= STREAMS; c++) {
                if (isChild(c, s)) {
                    streams[c].weight = (int) Math.max(1, cut(streams[c].weight * own, together));
                }
            }
            hangChildren(s, streams[s].parent);
            there &= ~(1 << s);
        }

        void empty() {
            there = 0;
            streams[0].floor = 0;
        }
    }

    /** How FRAMES are tried on a TREE. */
    private static final class Frames {
        static boolean tryOne(Tree tree) {
            int can = tree.canBits();
            int live = tree.liveBits(can);
            look(tree, live);
            int s = sender(tree, can, live);
            if (s == NONE) {
                return false;
            }
            send(tree, s);
            countWaits(tree, can, s);
            growOld(tree);
            tree.letGo();
            return true;
        }

        static void look(Tree tree, int live) {
            for (int s = 1; s <= STREAMS; s++) {
                if (has(live, s)) {
                    tree.streams[s].turn = turnOnLook(tree, s);
                }
            }
            tree.lived = live;
        }

        // Asked ahead of a look (next() makes none) or behind it, this is the same for each LIVE one.
        static long turnOnLook(Tree tree, int s) {
            Stream stream = tree.streams[s];
            if (has(tree.lived, s)) {
                return stream.turn;
            }
            return Math.max(stream.turn, tree.streams[stream.parent].floor);
        }

        static int sender(Tree tree, int can, int live) {
            if (tree.pool == 0 || can == 0) {
                return NONE;
            }
            return tree.scheme == 0 ? byTree(tree, can, live) : byUrgency(tree, can);
        }

        static int byTree(Tree tree, int can, int live) {
            int at = 0;
            for (int depth = 0; depth < STREAMS; depth++) {
                at = leastTurn(tree, at, live);
                if (at == NONE || has(can, at)) {
                    return at;
                }
            }
            return NONE;
        }

        static int leastTurn(Tree tree, int p, int live) {
            int least = NONE;
            long leastTurn = 0;
            for (int s = 1; s <= STREAMS; s++) {
                if (has(live, s) && tree.streams[s].parent == p) {
                    long turn = turnOnLook(tree, s);
                    if (least == NONE || turn < leastTurn) {
                        least = s;
                        leastTurn = turn;
                    }
                }
            }
            return least;
        }

        static int byUrgency(Tree tree, int can) {
            int first = NONE;
            for (int s = 1; s <= STREAMS; s++) {
                if (has(can, s) && (first == NONE || isAhead(tree.streams[s], tree.streams[first]))) {
                    first = s;
                }
            }
            return first;
        }

        // The other has the lesser number, so it keeps its place among like ones.
        static boolean isAhead(Stream stream, Stream other) {
            if (stream.urgency != other.urgency) {
                return stream.urgency < other.urgency;
            }
            if (stream.stepwise != other.stepwise) {
                return stream.stepwise < other.stepwise;
            }
            return stream.stepwise == 1 && stream.last < other.last;
        }

        static void send(Tree tree, int s) {
            Stream stream = tree.streams[s];
            int bytes = Math.min(Math.min(tree.size, tree.pool), Math.min(stream.ready, stream.window));
            tree.pool -= bytes;
            stream.ready -= bytes;
            stream.window -= bytes;
            stream.sent += bytes;
            if (tree.scheme == 0) {
                chargeLine(tree, s, bytes);
            }
            tree.frames++;
            stream.last = tree.frames;
            tree.lastBytes = bytes;
            tree.lastStream = s;
        }

        // Those taken on the way from THE ROOT are just the sender and all that it is BELOW.
        static void chargeLine(Tree tree, int s, int bytes) {
            int at = s;
            for (int step = 0; step < STREAMS && at != 0; step++) {
                Stream taken = tree.streams[at];
                tree.streams[taken.parent].floor = taken.turn;
                taken.turn += cut(bytes * TURN_UNIT, taken.weight);
                at = taken.parent;
            }
        }

        static void countWaits(Tree tree, int could, int sender) {
            for (int s = 1; s <= STREAMS; s++) {
                if (has(could, s) && s != sender) {
                    tree.streams[s].waitOnce();
                }
            }
            tree.streams[sender].waited = 0;
        }

        static void growOld(Tree tree) {
            for (int s = 1; s <= STREAMS; s++) {
                if (has(tree.there, s) && !tree.streams[s].open) {
                    tree.streams[s].age++;
                }
            }
        }
    }

    /** SHARES as fractions. Twelve STREAMS keep both products at 16 to the 12th or less. */
    private static final class Shares {
        static long term(Tree tree, int s, boolean wantsAbove) {
            int can = tree.canBits();
            int live = tree.liveBits(can);
            int line = tree.lineBits(s);
            if (!has(live, s) || (line & ~(1 << s) & can) != 0) {
                return wantsAbove ? 0 : 1;
            }
            long above = 1;
            long below = 1;
            int at = s;
            for (int step = 0; step < STREAMS && at != 0; step++) {
                above *= tree.streams[at].weight;
                at = tree.streams[at].parent;
                below *= tree.childWeights(at, live);
            }
            return cut(wantsAbove ? above : below, gcd(above, below));
        }

        static long gcd(long a, long b) {
            long greater = a;
            long lesser = b;
            for (int step = 0; step < GCD_STEPS && lesser != 0; step++) {
                long rest = greater % lesser;
                greater = lesser;
                lesser = rest;
            }
            return greater;
        }
    }

    /** THE TEXT, and the TREE that was read from it last. */
    private static final class TypedText {
        final int[] bytes;
        int length;
        // What was read, from the left.
        final int[] numbers;
        final int[] weights;
        final int[] parents;
        int count;
        // What each STREAM told stands in, by its number.
        final int[] standsIn;
        int toldBits;
        int place;
        int fault;

        TypedText() {
            bytes = new int[MOST_TYPED];
            numbers = new int[STREAMS];
            weights = new int[STREAMS];
            parents = new int[STREAMS];
            standsIn = new int[STREAMS + 1];
        }

        void append(int c) {
            if (length < MOST_TYPED) {
                bytes[length] = c;
                length++;
            }
        }

        /** Answers the FAULT, NONE if there is none. */
        int read() {
            count = 0;
            toldBits = 0;
            place = 0;
            fault = NONE;
            int inside = 0;
            int newest = 0;
            boolean mayOpen = false;
            boolean mayClose = false;
            for (int part = 0; part < MOST_TYPED; part++) {
                int c = byteBehindBlanks();
                if (c == NONE) {
                    break;
                }
                if (isFigure(c)) {
                    newest = readStream(inside);
                    if (fault != NONE) {
                        return fault;
                    }
                    mayOpen = true;
                    mayClose = inside != 0;
                } else if (c == '(' && mayOpen) {
                    place++;
                    inside = newest;
                    mayOpen = false;
                    mayClose = false;
                } else if (c == ')' && mayClose) {
                    place++;
                    inside = standsIn[inside];
                    mayOpen = false;
                    mayClose = inside != 0;
                } else {
                    return place;
                }
            }
            return inside == 0 ? NONE : length;
        }

        int readStream(int inside) {
            int start = place;
            int number = readNumber(STREAMS);
            if (fault == NONE && has(toldBits, number)) {
                fault = start;
            }
            if (fault == NONE && byteBehindBlanks() != ':') {
                fault = place;
            }
            if (fault != NONE) {
                return NONE;
            }
            place++;
            byteBehindBlanks();
            int weight = readNumber(MOST_WEIGHT);
            if (fault != NONE) {
                return NONE;
            }
            keepStream(number, weight, inside);
            return number;
        }

        void keepStream(int number, int weight, int inside) {
            if (count < STREAMS) {
                numbers[count] = number;
                weights[count] = weight;
                parents[count] = inside;
                count++;
            }
            standsIn[number] = inside;
            toldBits |= 1 << number;
        }

        // A text that ends too early needs no case of its own: the place is its length then.
        int readNumber(int most) {
            int start = place;
            int value = 0;
            for (int figures = 0; figures < 2 && isFigure(byteHere()); figures++) {
                value = 10 * value + byteHere() - '0';
                place++;
            }
            if (place == start || isFigure(byteHere())) {
                fault = place;
            } else if (!within(value, 1, most)) {
                fault = start;
            }
            return fault == NONE ? value : NONE;
        }

        int byteBehindBlanks() {
            for (int i = 0; i < MOST_TYPED && byteHere() == ' '; i++) {
                place++;
            }
            return byteHere();
        }

        int byteHere() {
            return place < length ? bytes[place] : NONE;
        }

        static boolean isFigure(int c) {
            return within(c, '0', '9');
        }
    }

    /** Writes a TREE as a text; twelve STREAMS fill less than 80 bytes. */
    private static final class TreeWriter {
        final int[] bytes;
        int length;

        TreeWriter() {
            bytes = new int[MOST_TYPED];
        }

        void write(Tree tree) {
            length = 0;
            writeChildren(tree, 0, 0);
        }

        private void writeChildren(Tree tree, int p, int depth) {
            if (depth > STREAMS) {
                return;
            }
            boolean first = true;
            for (int s = 1; s <= STREAMS; s++) {
                if (tree.isChild(s, p)) {
                    if (!first) {
                        put(' ');
                    }
                    first = false;
                    putNumber(s);
                    put(':');
                    putNumber(tree.streams[s].weight);
                    if (tree.childCount(s) > 0) {
                        put('(');
                        writeChildren(tree, s, depth + 1);
                        put(')');
                    }
                }
            }
        }

        private void putNumber(int v) {
            if (v >= 10) {
                put('0' + v / 10);
            }
            put('0' + v % 10);
        }

        private void put(int c) {
            if (length < bytes.length) {
                bytes[length] = c;
                length++;
            }
        }
    }
}
