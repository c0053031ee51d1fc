import java.math.BigInteger;
import java.util.ArrayList;
import java.util.List;
import java.util.Map;
import java.util.TreeMap;

/** The document's words once more, as slow and plain as can be, to hold random runs against. */
final class PlainModel {
    private static final int NONE = -1, BAD = -2, NO = -3, FULL = -4;

    private static final class Node implements Cloneable {
        int parent, weight, ready, window = 1000, urgency = 3, stepwise, age, sent, wait, longest, last = NONE;
        boolean open = true;
        boolean live;
        long turn, floor;

        Node copy() {
            try {
                return (Node) clone();
            } catch (CloneNotSupportedException e) {
                throw new IllegalStateException(e);
            }
        }
    }

    private static final class State {
        TreeMap<Integer, Node> nodes = new TreeMap<>();
        long rootFloor;
        int[] settings = {10000, 100, 10, 0};
        int frames, lastBytes, lastStream = NONE;

        State copy() {
            State c = new State();
            nodes.forEach((s, n) -> c.nodes.put(s, n.copy()));
            c.rootFloor = rootFloor;
            c.settings = settings.clone();
            c.frames = frames;
            c.lastBytes = lastBytes;
            c.lastStream = lastStream;
            return c;
        }
    }

    private static final class Fault extends Exception {
        private static final long serialVersionUID = 1L;
        final int place;

        Fault(int place) {
            this.place = place;
        }
    }

    private State now = new State();
    private final ArrayList<State> states = new ArrayList<>();
    private final int[] refused = new int[3];
    private String text = "";

    private int refuse(int why) {
        refused[-2 - why]++;
        return why;
    }

    private void leave() {
        states.add(now.copy());
        if (states.size() > 5) {
            states.remove(0);
        }
    }

    private Node node(int s) {
        return now.nodes.get(s);
    }

    private long floor(int s) {
        return s == 0 ? now.rootFloor : node(s).floor;
    }

    private void floor(int s, long v) {
        if (s == 0) {
            now.rootFloor = v;
        } else {
            node(s).floor = v;
        }
    }

    private boolean there(int s) {
        return now.nodes.containsKey(s);
    }

    private List<Integer> children(int p) {
        List<Integer> list = new ArrayList<>();
        now.nodes.forEach((s, n) -> {
            if (n.parent == p) {
                list.add(s);
            }
        });
        return list;
    }

    private List<Integer> below(int p) {
        List<Integer> list = new ArrayList<>();
        for (int c : children(p)) {
            list.add(c);
            list.addAll(below(c));
        }
        return list;
    }

    private boolean can(int s) {
        Node n = node(s);
        return n.open && n.ready > 0 && n.window > 0;
    }

    private boolean live(int s) {
        return can(s) || below(s).stream().anyMatch(this::can);
    }

    private void hang(int s, int p) {
        node(s).parent = p;
        node(s).turn = floor(p);
    }

    private void hangAlone(int s, int p, int alone) {
        if (alone == 1) {
            for (int c : children(p)) {
                if (c != s) {
                    hang(c, s);
                }
            }
        }
        hang(s, p);
    }

    private void goings() {
        for (int s = 1; s <= 12; s++) {
            if (there(s) && !node(s).open && node(s).age >= now.settings[2]) {
                Node n = node(s);
                List<Integer> cs = children(s);
                int sum = cs.stream().mapToInt(c -> node(c).weight).sum();
                for (int c : cs) {
                    hang(c, n.parent);
                    node(c).weight = Math.max(1, node(c).weight * n.weight / sum);
                }
                now.nodes.remove(s);
            }
        }
    }

    int comes(int s, int p, int w, int alone) {
        if (s < 1 || s > 12 || (p != 0 && !there(p)) || w < 1 || w > 16 || alone < 0 || alone > 1) {
            return refuse(BAD);
        }
        if (there(s)) {
            return refuse(NO);
        }
        leave();
        Node n = new Node();
        n.parent = -99;
        n.weight = w;
        now.nodes.put(s, n);
        hangAlone(s, p, alone);
        return children(s).size();
    }

    int moves(int s, int p, int w, int alone) {
        if (!there(s) || (p != 0 && !there(p)) || p == s || w < 1 || w > 16 || alone < 0 || alone > 1) {
            return refuse(BAD);
        }
        leave();
        node(s).weight = w;
        if (below(s).contains(p)) {
            hang(p, node(s).parent);
        }
        hangAlone(s, p, alone);
        return children(s).size();
    }

    int sets(int s, int what, int v) {
        if (!there(s)) {
            return refuse(BAD);
        }
        Node n = node(s);
        if (what == 0 && v >= 1 && v <= 16) {
            leave();
            int was = n.weight;
            n.weight = v;
            return was;
        }
        if (what == 1 && v >= 0 && v <= 7) {
            leave();
            int was = n.urgency;
            n.urgency = v;
            return was;
        }
        if (what == 2 && v >= 0 && v <= 1) {
            leave();
            int was = n.stepwise;
            n.stepwise = v;
            return was;
        }
        return refuse(BAD);
    }

    int closes(int s) {
        if (!there(s)) {
            return refuse(BAD);
        }
        if (!node(s).open) {
            return refuse(NO);
        }
        leave();
        node(s).open = false;
        node(s).ready = 0;
        goings();
        return now.nodes.size();
    }

    int of(int s, int what) {
        if (!there(s) || what < 0 || what > 15) {
            return refuse(BAD);
        }
        Node n = node(s);
        int[] v = {n.parent, n.weight, n.ready, n.window, n.urgency, n.stepwise, n.open ? 1 : 0, n.age, n.sent, n.wait,
            n.longest, n.last, children(s).size(), below(s).size(), can(s) ? 1 : 0, live(s) ? 1 : 0};
        return v[what];
    }

    long turn(int s, int what) {
        if (what < 0 || what > 1 || (!there(s) && (s != 0 || what == 0))) {
            return refuse(BAD);
        }
        return what == 0 ? node(s).turn : floor(s);
    }

    int child(int s, int i) {
        if ((s != 0 && !there(s)) || i < 0) {
            return refuse(BAD);
        }
        List<Integer> cs = children(s);
        return i < cs.size() ? cs.get(i) : NONE;
    }

    int common(int s, int t) {
        if (!there(s) || !there(t)) {
            return refuse(BAD);
        }
        int deepest = 0;
        int fewest = 99;
        for (int a : now.nodes.keySet()) {
            List<Integer> under = below(a);
            if ((a == s || under.contains(s)) && (a == t || under.contains(t)) && under.size() < fewest) {
                fewest = under.size();
                deepest = a;
            }
        }
        return deepest;
    }

    int readies(int s, int v) {
        if (!there(s) || v < 1 || v > 9999) {
            return refuse(BAD);
        }
        if (!node(s).open || node(s).ready + v > 9999) {
            return refuse(NO);
        }
        leave();
        return node(s).ready += v;
    }

    int window(int s, int v) {
        if (!there(s) || v < 0 || v > 9999) {
            return refuse(BAD);
        }
        leave();
        int was = node(s).window;
        node(s).window = v;
        return was;
    }

    int settings(int what, int v) {
        int[][] bounds = {{0, 99999}, {1, 999}, {0, 50}, {0, 1}};
        if (what < 0 || what > 3 || v < bounds[what][0] || v > bounds[what][1]) {
            return refuse(BAD);
        }
        leave();
        int was = now.settings[what];
        now.settings[what] = v;
        goings();
        return was;
    }

    int sends(int n) {
        if (n < 1 || n > 100) {
            return refuse(BAD);
        }
        leave();
        for (int sent = 0; sent < n; sent++) {
            if (frame() == NONE) {
                return sent;
            }
        }
        return n;
    }

    private int frame() {
        List<Integer> could = new ArrayList<>();
        for (Map.Entry<Integer, Node> e : now.nodes.entrySet()) {
            Node n = e.getValue();
            boolean live = live(e.getKey());
            if (live && !n.live) {
                n.turn = Math.max(n.turn, floor(n.parent));
            }
            n.live = live;
            if (can(e.getKey())) {
                could.add(e.getKey());
            }
        }
        if (now.settings[0] == 0 || could.isEmpty()) {
            return NONE;
        }
        List<Integer> way = new ArrayList<>();
        int s = now.settings[3] == 0 ? byTree(way) : byUrgency(could);
        Node n = node(s);
        int bytes = Math.min(Math.min(now.settings[0], now.settings[1]), Math.min(n.ready, n.window));
        now.settings[0] -= bytes;
        n.ready -= bytes;
        n.window -= bytes;
        n.sent += bytes;
        for (int w : way) {
            node(w).turn += bytes * 720720L / node(w).weight;
        }
        n.last = ++now.frames;
        now.lastBytes = bytes;
        now.lastStream = s;
        for (int c : could) {
            node(c).wait++;
            if (c == s) {
                node(c).wait = 0;
            }
            node(c).longest = Math.max(node(c).longest, node(c).wait);
        }
        now.nodes.values().stream().filter(m -> !m.open).forEach(m -> m.age++);
        goings();
        return s;
    }

    private int byTree(List<Integer> way) {
        int at = 0;
        while (at == 0 || !can(at)) {
            int taken = 0;
            for (int c : children(at)) {
                if (live(c) && (taken == 0 || node(c).turn < node(taken).turn)) {
                    taken = c;
                }
            }
            floor(at, node(taken).turn);
            way.add(taken);
            at = taken;
        }
        return at;
    }

    private int byUrgency(List<Integer> could) {
        int least = could.stream().mapToInt(s -> node(s).urgency).min().getAsInt();
        List<Integer> urgent = new ArrayList<>(could);
        urgent.removeIf(s -> node(s).urgency != least);
        for (int s : urgent) {
            if (node(s).stepwise == 0) {
                return s;
            }
        }
        int first = urgent.get(0);
        for (int s : urgent) {
            if (node(s).last < node(first).last) {
                first = s;
            }
        }
        return first;
    }

    int next() {
        State kept = now;
        now = kept.copy();
        int s = frame();
        now = kept;
        return s;
    }

    long share(int s, int what) {
        if (!there(s) || what < 0 || what > 1) {
            return refuse(BAD);
        }
        BigInteger above = BigInteger.ONE;
        BigInteger below = BigInteger.ONE;
        boolean none = !live(s);
        for (int at = s; at != 0; at = node(at).parent) {
            none |= at != s && can(at);
            int sum = children(node(at).parent).stream().filter(this::live).mapToInt(c -> node(c).weight).sum();
            above = above.multiply(BigInteger.valueOf(node(at).weight));
            below = below.multiply(BigInteger.valueOf(sum));
        }
        if (none) {
            return what;
        }
        return (what == 0 ? above : below).divide(above.gcd(below)).longValueExact();
    }

    int all(int what) {
        int[] v = {0, 0, 0, 0, 0, now.lastBytes, now.lastStream};
        if (what < 0 || what > 6) {
            return refuse(BAD);
        }
        now.nodes.forEach((s, n) -> {
            v[0] |= 1 << s;
            v[1] |= can(s) ? 1 << s : 0;
            v[2] |= live(s) ? 1 << s : 0;
            v[3] += n.sent;
            v[4] = Math.max(v[4], n.longest);
        });
        return v[what];
    }

    int type(int c) {
        if (c < 0 || c > 127) {
            return refuse(BAD);
        }
        if (text.length() == 120) {
            return refuse(FULL);
        }
        text += (char) c;
        return text.length();
    }

    int clear() {
        int had = text.length();
        text = "";
        return had;
    }

    int builds() {
        List<int[]> told = new ArrayList<>();
        try {
            int end = row(0, 0, told);
            if (end < text.length()) {
                throw new Fault(end);
            }
        } catch (Fault f) {
            return -10 - f.place;
        }
        leave();
        now.nodes.clear();
        now.rootFloor = 0;
        for (int[] t : told) {
            Node n = new Node();
            n.weight = t[1];
            now.nodes.put(t[0], n);
            hang(t[0], t[2]);
        }
        return told.size();
    }

    private boolean at(int i, String signs) {
        return i < text.length() && signs.indexOf(text.charAt(i)) >= 0;
    }

    private int blanks(int i) {
        return at(i, " ") ? blanks(i + 1) : i;
    }

    private int sign(int i, String sign) throws Fault {
        if (!at(i, sign)) {
            throw new Fault(i);
        }
        return blanks(i + 1);
    }

    // S in a row; answers where the first sign stands that is no part of it.
    private int row(int i, int parent, List<int[]> told) throws Fault {
        i = blanks(i);
        while (at(i, "0123456789")) {
            int[] t = {0, 0, parent};
            i = number(i, t, 0, 12, told);
            i = sign(i, ":");
            i = number(i, t, 1, 16, new ArrayList<>());
            told.add(t);
            if (at(i, "(")) {
                int count = told.size();
                i = row(i + 1, t[0], told);
                if (told.size() == count) {
                    throw new Fault(i);
                }
                i = sign(i, ")");
            }
        }
        return i;
    }

    private int number(int i, int[] into, int where, int most, List<int[]> told) throws Fault {
        int end = i;
        while (at(end, "0123456789") && end < i + 3) {
            end++;
        }
        if (end == i) {
            throw new Fault(i);
        }
        if (end == i + 3) {
            throw new Fault(i + 2);
        }
        int v = Integer.parseInt(text.substring(i, end));
        if (v < 1 || v > most || told.stream().anyMatch(t -> t[0] == v)) {
            throw new Fault(i);
        }
        into[where] = v;
        return blanks(end);
    }

    private String written(int p) {
        List<String> parts = new ArrayList<>();
        for (int c : children(p)) {
            String under = written(c);
            parts.add(c + ":" + node(c).weight + (under.isEmpty() ? "" : "(" + under + ")"));
        }
        return String.join(" ", parts);
    }

    int shown(int i) {
        if (i < 0) {
            return refuse(BAD);
        }
        String w = written(0);
        return i < w.length() ? w.charAt(i) : NONE;
    }

    int back() {
        if (states.isEmpty()) {
            return refuse(NO);
        }
        now = states.remove(states.size() - 1);
        return states.size();
    }

    int told(int what) {
        if (what < 0 || what > 9) {
            return refuse(BAD);
        }
        int[] v = {refused[0], refused[1], refused[2], text.length(), now.settings[0], now.settings[1],
            now.settings[2], now.settings[3], now.frames, states.size()};
        return v[what];
    }

    long digest() {
        List<Long> vs = new ArrayList<>();
        for (int i = 0; i < 10; i++) {
            vs.add((long) told(i));
        }
        for (int i = 0; i < 7; i++) {
            vs.add((long) all(i));
        }
        for (int s : now.nodes.keySet()) {
            vs.add((long) s);
            for (int i = 0; i < 16; i++) {
                vs.add((long) of(s, i));
            }
            vs.add(turn(s, 0));
            vs.add(turn(s, 1));
        }
        vs.add(now.rootFloor);
        vs.add((long) next());
        long h = 2311;
        for (long v : vs) {
            h = 31 * h + v;
        }
        return h;
    }
}
