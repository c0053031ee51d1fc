import java.util.function.Supplier;
import java.util.function.ToLongFunction;

/** What the tests of the document's sentences share: they say which sentence they hold, and look at refused calls. */
final class Edges {
    static final long UNIT = 720720L;
    private static final String TREE = "1:3(2:4(5:1) 3:5 12:2) 4:6";

    private final Check check = new Check();
    private String sentence = "";
    private int asked = 0;

    /** QuotesTest holds that the words stand in that part of the document: 0 the terms, else the promise. */
    void says(int part, String words) {
        endSentence();
        sentence = part + " '" + words + "': ";
    }

    void due(String call, long got, long want) {
        asked++;
        check.due(sentence + call, got, want);
    }

    void shows(String call, HungStreams x, String tree) {
        asked++;
        check.due(sentence + call, Check.shownWhole(x), tree);
    }

    void end() {
        endSentence();
        check.end();
    }

    private void endSentence() {
        if (!sentence.isEmpty() && asked == 0) {
            throw new IllegalStateException("nothing was asked for " + sentence);
        }
        asked = 0;
    }

    /** Much is going on here: 3 is CLOSED, 6 to 11 are not there, 2 and 4 have sent; 4 STATES, older ones lost; a text. */
    static HungStreams busy() {
        HungStreams x = Check.built(TREE);
        x.readies(2, 9999);
        x.readies(4, 500);
        x.readies(12, 30);
        x.closes(3);
        x.told(-1);
        x.closes(3);
        x.sends(4);
        for (int i = 0; i < 5; i++) {
            x.back();
        }
        x.sets(12, 2, 1);
        x.readies(2, 9999);
        x.readies(4, 500);
        x.closes(3);
        x.sends(4);
        for (int i = 0; i < 2; i++) {
            x.window(5, 7 + i);
            x.back();
        }
        return x;
    }

    static HungStreams busyWithFullText() {
        HungStreams x = busy();
        for (int i = x.told(3); i < 120; i++) {
            x.type(' ');
        }
        return x;
    }

    void bad(String call, ToLongFunction<HungStreams> it) {
        refused(call, Edges::busy, it, HungStreams.BAD);
    }

    void no(String call, ToLongFunction<HungStreams> it) {
        refused(call, Edges::busy, it, HungStreams.NO);
    }

    /** The call is refused so, and from there on all is as with a twin that was never called so, but how often. */
    void refused(String call, Supplier<HungStreams> made, ToLongFunction<HungStreams> it, int why) {
        HungStreams x = made.get();
        HungStreams twin = made.get();
        due(call, it.applyAsLong(x), why);
        for (int what = 0; what <= 2; what++) {
            due(call + ", then told(" + what + ")", x.told(what), twin.told(what) + (what == -2 - why ? 1 : 0));
        }
        goOnAlike(call, x, twin, why);
    }

    /** The call leaves one STATE, and taken back all is as with a twin that was never called so. */
    void leavesState(String call, ToLongFunction<HungStreams> it) {
        HungStreams x = busy();
        HungStreams twin = busy();
        long states = x.told(9);
        long answer = it.applyAsLong(x);
        due(call + " is not refused", answer <= HungStreams.BAD ? 1 : 0, 0);
        due(call + ", then told(9)", x.told(9), states + 1);
        due(call + ", then back()", x.back(), states);
        goOnAlike(call, x, twin, HungStreams.NONE);
    }

    /** The call answers so and changes nothing that can be seen, now or later; it leaves no STATE. */
    void asks(String call, ToLongFunction<HungStreams> it, long want) {
        HungStreams x = busy();
        HungStreams twin = busy();
        due(call, it.applyAsLong(x), want);
        goOnAlike(call, x, twin, HungStreams.NONE);
    }

    private void goOnAlike(String call, HungStreams x, HungStreams twin, int why) {
        alike(call, x, twin, why);
        due(call + ", then sends(3)", x.sends(3), twin.sends(3));
        alike(call + ", then sends(3)", x, twin, why);
        due(call + ", then builds()", x.builds(), twin.builds());
        alike(call + ", then builds()", x, twin, why);
        for (int i = 0; i < 7; i++) {
            due(call + ", then back()", x.back(), twin.back());
            alike(call + ", then back()", x, twin, why);
        }
    }

    // digest() has told(0), told(1), told(2) ahead of all others: one more of one of them moves it by a power of 31.
    private void alike(String call, HungStreams x, HungStreams twin, int why) {
        long more = 0;
        if (why != HungStreams.NONE) {
            int values = 10 + 7 + 19 * Integer.bitCount(twin.all(0)) + 2;
            more = 1;
            for (int behind = values - 1 - (-2 - why); behind > 0; behind--) {
                more *= 31;
            }
        }
        due(call + ", then digest()", x.digest(), twin.digest() + more);
    }
}
