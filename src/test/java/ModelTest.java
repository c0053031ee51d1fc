import java.util.Random;

/** All promises: random runs, each answer held against the plain model's. The seeds are fixed. */
public final class ModelTest {
    private static final int RUNS = 1500;
    private static final int CALLS = 512;

    private final Random random;
    private final HungStreams x = new HungStreams();
    private final PlainModel m = new PlainModel();
    private final int[] mix;
    private final StringBuilder told = new StringBuilder();
    private long got;
    private long want;

    private ModelTest(long seed) {
        random = new Random(seed);
        mix = new int[22];
        for (int i = 0; i < mix.length; i++) {
            mix[i] = 1 + random.nextInt(random.nextInt(4) == 0 ? 30 : 6);
        }
    }

    public static void main(String[] args) {
        long calls = 0;
        for (int seed = 0; seed < RUNS; seed++) {
            ModelTest test = new ModelTest(seed);
            for (int i = 0; i < CALLS; i++) {
                test.call(test.pick());
                calls++;
                if (test.got == test.want && test.x.digest() != test.m.digest()) {
                    test.say("digest behind it", test.x.digest(), test.m.digest());
                }
                if (test.got != test.want) {
                    System.out.println("run " + seed + ", call " + i + ":\n" + test.told
                        + "answered " + test.got + ", due is " + test.want);
                    System.exit(1);
                }
            }
        }
        System.out.println(calls + " calls in " + RUNS + " runs as the model");
    }

    private int pick() {
        int sum = 0;
        for (int v : mix) {
            sum += v;
        }
        int at = random.nextInt(sum);
        for (int i = 0; i < mix.length; i++) {
            at -= mix[i];
            if (at < 0) {
                return i;
            }
        }
        return 0;
    }

    private void say(String call, long gotIt, long due) {
        told.append(call).append(" -> ").append(gotIt).append('\n');
        got = gotIt;
        want = due;
    }

    // Mostly within the bounds, sometimes at them or just outside.
    private int in(int least, int most) {
        int kind = random.nextInt(40);
        if (kind == 0) {
            return least - 1;
        }
        if (kind == 1) {
            return most + 1;
        }
        if (kind == 2) {
            return random.nextInt();
        }
        if (kind == 3) {
            return least;
        }
        if (kind == 4) {
            return most;
        }
        return least + random.nextInt(most - least + 1);
    }

    private int bytes() {
        return random.nextInt(3) == 0 ? in(0, 9999) : in(1, 300);
    }

    // One that is there, if there is one, most of the time.
    private int stream() {
        int bits = x.all(0);
        if (bits != 0 && random.nextInt(12) != 0) {
            int skip = random.nextInt(Integer.bitCount(bits));
            for (int i = 0; i < skip; i++) {
                bits &= bits - 1;
            }
            return Integer.numberOfTrailingZeros(bits);
        }
        return in(1, 12);
    }

    private int node() {
        return random.nextInt(5) == 0 ? 0 : stream();
    }

    private void call(int which) {
        int s = stream();
        int t = stream();
        int p = node();
        int w = in(1, 16);
        int a = in(0, 1);
        switch (which) {
            case 0 -> {
                int fresh = random.nextInt(4) == 0 ? in(1, 12) : absent();
                say("comes(" + fresh + "," + p + "," + w + "," + a + ")", x.comes(fresh, p, w, a), m.comes(fresh, p, w, a));
            }
            case 1 -> say("moves(" + s + "," + p + "," + w + "," + a + ")", x.moves(s, p, w, a), m.moves(s, p, w, a));
            case 2 -> {
                int what = in(0, 2);
                int v = what == 0 ? w : what == 1 ? in(0, 7) : a;
                say("sets(" + s + "," + what + "," + v + ")", x.sets(s, what, v), m.sets(s, what, v));
            }
            case 3 -> say("closes(" + s + ")", x.closes(s), m.closes(s));
            case 4 -> {
                int what = in(0, 15);
                say("of(" + s + "," + what + ")", x.of(s, what), m.of(s, what));
            }
            case 5 -> say("turn(" + p + "," + a + ")", x.turn(p, a), m.turn(p, a));
            case 6 -> {
                int i = in(0, 3);
                say("child(" + p + "," + i + ")", x.child(p, i), m.child(p, i));
            }
            case 7 -> say("common(" + s + "," + t + ")", x.common(s, t), m.common(s, t));
            case 8 -> {
                int v = bytes();
                say("readies(" + s + "," + v + ")", x.readies(s, v), m.readies(s, v));
            }
            case 9 -> {
                int v = random.nextInt(3) == 0 ? 0 : bytes();
                say("window(" + s + "," + v + ")", x.window(s, v), m.window(s, v));
            }
            case 10 -> {
                int what = in(0, 3);
                int v = what == 0 ? in(0, 99999) : what == 1 ? in(1, 999) : what == 2 ? in(0, 50) : a;
                if (what < 2 && random.nextInt(2) == 0) {
                    v = in(0, 100);
                } else if (what == 2 && random.nextInt(2) == 0) {
                    v = in(0, 4);
                }
                say("settings(" + what + "," + v + ")", x.settings(what, v), m.settings(what, v));
            }
            case 11 -> {
                int n = random.nextInt(6) == 0 ? in(1, 100) : in(1, 6);
                say("sends(" + n + ")", x.sends(n), m.sends(n));
            }
            case 12 -> say("next()", x.next(), m.next());
            case 13 -> say("share(" + s + "," + a + ")", x.share(s, a), m.share(s, a));
            case 14 -> {
                int what = in(0, 6);
                say("all(" + what + ")", x.all(what), m.all(what));
            }
            case 15 -> {
                int c = random.nextInt(3) == 0 ? in(0, 127) : "0123456789:() ".charAt(random.nextInt(14));
                say("type(" + c + ")", x.type(c), m.type(c));
            }
            case 16 -> say("clear()", x.clear(), m.clear());
            case 17 -> say("builds()", x.builds(), m.builds());
            case 18 -> {
                int i = in(0, 40);
                say("shown(" + i + ")", x.shown(i), m.shown(i));
            }
            case 19 -> say("back()", x.back(), m.back());
            case 20 -> {
                int what = in(0, 9);
                say("told(" + what + ")", x.told(what), m.told(what));
            }
            default -> typeTree();
        }
    }

    private int absent() {
        for (int i = 0; i < 30; i++) {
            int s = 1 + random.nextInt(12);
            if ((x.all(0) >> s & 1) == 0) {
                return s;
            }
        }
        return 1;
    }

    // A whole text at once, a good one or nearly so; else hardly any text would ever be read to its end.
    private void typeTree() {
        StringBuilder text = new StringBuilder();
        row(text, 0, new boolean[13]);
        if (random.nextInt(2) == 0 && text.length() > 0) {
            int i = random.nextInt(text.length());
            char c = "0123456789:()  ".charAt(random.nextInt(15));
            switch (random.nextInt(3)) {
                case 0 -> text.setCharAt(i, c);
                case 1 -> text.insert(i, c);
                default -> text.setLength(i);
            }
        }
        x.clear();
        m.clear();
        for (int i = 0; i < text.length(); i++) {
            x.type(text.charAt(i));
            m.type(text.charAt(i));
        }
        say("builds() of '" + text + "'", x.builds(), m.builds());
    }

    private String blank() {
        return random.nextInt(8) == 0 ? " " : "";
    }

    private void row(StringBuilder text, int depth, boolean[] used) {
        int count = (depth == 0 ? 0 : 1) + random.nextInt(4);
        for (int i = 0; i < count; i++) {
            int s = 1 + random.nextInt(12);
            if (used[s] && random.nextInt(20) != 0) {
                continue;
            }
            used[s] = true;
            if (text.length() > 0 && Character.isDigit(text.charAt(text.length() - 1))) {
                text.append(' ');
            }
            text.append(blank()).append(s).append(blank()).append(':').append(blank());
            text.append(random.nextInt(15) == 0 ? "0" : "").append(1 + random.nextInt(16)).append(blank());
            if (depth < 6 && random.nextInt(3) == 0) {
                text.append('(');
                row(text, depth + 1, used);
                text.append(')').append(blank());
            }
        }
    }
}
