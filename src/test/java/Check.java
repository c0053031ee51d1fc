import java.nio.file.Path;

/** What the tests share: it counts answers that are not as due, and speaks of texts in whole. */
final class Check {
    private int asked = 0;
    private int wrong = 0;

    synchronized void due(String call, long got, long want) {
        asked++;
        if (got != want) {
            wrong++;
            System.out.println(call + " answered " + got + ", due is " + want);
        }
    }

    synchronized void due(String call, String got, String want) {
        asked++;
        if (!got.equals(want)) {
            wrong++;
            System.out.println(call + " answered '" + got + "', due is '" + want + "'");
        }
    }

    void end() {
        System.out.println(asked + " answers, " + wrong + " not as due");
        if (wrong != 0 || asked == 0) {
            System.exit(1);
        }
    }

    /** The project's folder; .ci/run tells where the class stands, without that it is looked for from here. */
    static Path root(String[] args) {
        Path source = Path.of(args.length > 0 ? args[0] : "src/main/java/HungStreams.java").toAbsolutePath();
        return source.getParent().getParent().getParent().getParent();
    }

    static void typeAnew(HungStreams x, String text) {
        x.clear();
        for (int i = 0; i < text.length(); i++) {
            x.type(text.charAt(i));
        }
    }

    static HungStreams built(String text) {
        HungStreams x = new HungStreams();
        typeAnew(x, text);
        if (x.builds() < 0) {
            throw new IllegalStateException("the test's own text has a fault: " + text);
        }
        return x;
    }

    static String shownWhole(HungStreams x) {
        StringBuilder text = new StringBuilder();
        for (int i = 0; x.shown(i) != HungStreams.NONE; i++) {
            text.append((char) x.shown(i));
        }
        return text.toString();
    }
}
