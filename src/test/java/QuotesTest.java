import java.io.IOException;
import java.nio.file.DirectoryStream;
import java.nio.file.Files;
import java.nio.file.Path;
import java.util.Arrays;
import java.util.regex.Matcher;
import java.util.regex.Pattern;

/**
 * Holds the Edges tests against the document: each sentence that they say stands there, and no sentence of the terms and
 * the promises is left that none of them says.
 */
public final class QuotesTest {
    private static final Check CHECK = new Check();
    private static final int PROMISES = 23;
    private static final String TEXT = "\"(?:[^\"\\\\]|\\\\.)*\"";
    private static final Pattern SAYS = Pattern.compile("\\.says\\((\\d+),\\s*(" + TEXT + "(?:\\s*\\+\\s*" + TEXT + ")*)\\)");

    // They lead up to what the tests say; there is nothing in them to be broken.
    private static final String[] LEADING_UP = {"; what later calls answer is free.", "======== 2",
        "A FRAME is tried: it is looked at who is LIVE;", "Else by SCHEME 0: from THE ROOT on, again and again,"};

    private final String[] parts = new String[1 + PROMISES];
    private final StringBuilder[] unsaid = new StringBuilder[1 + PROMISES];

    public static void main(String[] args) throws IOException {
        Path root = Check.root(args);
        QuotesTest test = new QuotesTest(Files.readString(root.resolve("../shared/DOC.md")));
        for (String words : LEADING_UP) {
            test.say(0, words);
        }
        try (DirectoryStream<Path> tests = Files.newDirectoryStream(root.resolve("src/test/java"), "Edges*Test.java")) {
            for (Path file : tests) {
                test.sayAll(Files.readString(file));
            }
        }
        test.nothingUnsaid();
        CHECK.end();
    }

    // Part 0 is what it is and the terms, from THE ROOT on (ahead of it the document only sums itself up).
    private QuotesTest(String document) {
        Arrays.fill(parts, "");
        for (String section : document.split("(?m)^## ")) {
            String body = section.substring(section.indexOf('\n') + 1);
            if (section.startsWith("What it is")) {
                parts[0] += body.substring(body.indexOf("THE ROOT"));
            } else if (section.startsWith("Terms")) {
                parts[0] += body.replaceAll("```(text)?", " ").replaceAll("(?m)^Ahead of the calls.*$", " ");
            } else if (section.startsWith("Promise ")) {
                int promise = Integer.parseInt(section.substring("Promise ".length(), section.indexOf(':')));
                parts[promise] = body.replaceFirst("^\\s*`[^`]*`:", " ");
            }
        }
        for (int part = 0; part <= PROMISES; part++) {
            parts[part] = parts[part].replaceAll("\\s+", " ");
            CHECK.due("part " + part + " is there", parts[part].length() > 1 ? 1 : 0, 1);
            unsaid[part] = new StringBuilder(parts[part]);
        }
    }

    private void sayAll(String test) {
        Matcher says = SAYS.matcher(test);
        while (says.find()) {
            say(Integer.parseInt(says.group(1)), says.group(2).replaceAll("\"\\s*\\+\\s*\"", "").replace("\"", ""));
        }
    }

    private void say(int part, String words) {
        int at = parts[part].indexOf(words);
        CHECK.due("part " + part + " says '" + words + "'", at >= 0 ? 1 : 0, 1);
        for (; at >= 0; at = parts[part].indexOf(words, at + 1)) {
            unsaid[part].replace(at, at + words.length(), " ".repeat(words.length()));
        }
    }

    private void nothingUnsaid() {
        for (int part = 0; part <= PROMISES; part++) {
            CHECK.due("part " + part + ", what no test says", unsaid[part].toString().replaceAll("\\W+", " ").trim(), "");
        }
    }
}
