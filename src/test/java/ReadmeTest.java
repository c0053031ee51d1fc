import java.io.IOException;
import java.lang.reflect.Method;
import java.lang.reflect.Modifier;
import java.nio.file.DirectoryStream;
import java.nio.file.Files;
import java.nio.file.Path;
import java.util.ArrayList;
import java.util.List;
import java.util.Set;
import java.util.TreeSet;
import java.util.regex.Matcher;
import java.util.regex.Pattern;

/** Holds README.md: the calls that it shows answer as it says, and its words on the tests are those by which they run. */
public final class ReadmeTest {
    private static final Check CHECK = new Check();
    private static final Pattern BLOCK = Pattern.compile("(?ms)^```(\\w+)\n(.*?)^```$");
    private static final Pattern ANSWERED =
        Pattern.compile("x\\.((\\w+)\\([^;]*\\)); +// (-?\\d+|NONE|BAD|NO|FULL)(: \\S.*)?");

    private final Path root;
    private final String page;

    private ReadmeTest(Path root) throws IOException {
        this.root = root;
        this.page = Files.readString(root.resolve("README.md"));
    }

    public static void main(String[] args) throws Exception {
        ReadmeTest test = new ReadmeTest(Check.root(args));
        test.callsAnswerSo();
        test.commandsRun();
        test.testsAreNamed();
        test.onlyTestsHaveMain();
        CHECK.end();
    }

    private List<String> blocks(String language) {
        List<String> blocks = new ArrayList<>();
        Matcher block = BLOCK.matcher(page);
        while (block.find()) {
            if (block.group(1).equals(language)) {
                blocks.add(block.group(2));
            }
        }
        return blocks;
    }

    // The blocks are compiled as they stand, so that what a reader copies from them compiles, too.
    private void callsAnswerSo() throws Exception {
        StringBuilder program = new StringBuilder("public final class Shown {\n");
        program.append("static final Check CHECK = new Check();\n");
        program.append("static final int NONE = HungStreams.NONE, BAD = HungStreams.BAD;\n");
        program.append("static final int NO = HungStreams.NO, FULL = HungStreams.FULL;\n");
        program.append("public static void main(String[] args) {\n");
        Set<String> shown = new TreeSet<>();
        for (String block : blocks("java")) {
            program.append("{\n").append(asTest(block, shown)).append("}\n");
        }
        program.append("CHECK.end();\n}\n}\n");
        CHECK.due("calls shown with their answers", shown.toString(), face().toString());
        try (SmallProject project = new SmallProject(root)) {
            project.take("src/main/java/HungStreams.java");
            project.take("src/test/java/Check.java");
            project.write("Shown.java", program.toString());
            CHECK.due("README.md compiled", compiledAndRun(project), 0);
        }
    }

    private static int compiledAndRun(SmallProject project) throws Exception {
        int code = project.run("javac -sourcepath src/main/java:src/test/java -d out Shown.java && java -cp out Shown");
        if (code != 0) {
            System.out.println(project.printed());
        }
        return code;
    }

    private static String asTest(String block, Set<String> shown) {
        StringBuilder test = new StringBuilder();
        for (String line : block.split("\n")) {
            Matcher call = ANSWERED.matcher(line);
            if (call.matches()) {
                shown.add(call.group(2));
                test.append("CHECK.due(\"README.md: ").append(call.group(1)).append("\", x.").append(call.group(1));
                test.append(", ").append(asLong(call.group(3))).append(");\n");
            } else {
                CHECK.due("'" + line + "' says an answer", line.startsWith("x.") || line.contains("//") ? 0 : 1, 1);
                test.append(line).append("\n");
            }
        }
        return test.toString();
    }

    // An answer may be greater than an int can tell.
    private static String asLong(String answer) {
        return answer.matches("-?\\d+") ? answer + "L" : answer;
    }

    private static Set<String> face() {
        Set<String> names = new TreeSet<>();
        for (Method method : HungStreams.class.getDeclaredMethods()) {
            if (Modifier.isPublic(method.getModifiers())) {
                names.add(method.getName());
            }
        }
        return names;
    }

    // .ci/run is what runs this test, so it can not be run from here: RunTest runs it on small projects.
    private void commandsRun() throws Exception {
        List<String> commands = new ArrayList<>();
        for (String block : blocks("sh")) {
            commands.addAll(List.of(block.split("\n")));
        }
        CHECK.due("README.md says .ci/run", commands.remove(".ci/run") ? 1 : 0, 1);
        CHECK.due(".ci/run can be run", Files.isExecutable(root.resolve(".ci/run")) ? 1 : 0, 1);
        CHECK.due("README.md says how one test is run", commands.size(), 2);
        try (SmallProject project = new SmallProject(root)) {
            project.take("src");
            for (String command : commands) {
                CHECK.due(command, project.run(command), 0);
            }
            CHECK.due("it ran", project.printed().matches("\\d+ answers, 0 not as due\\s*") ? 1 : 0, 1);
        }
    }

    private void testsAreNamed() throws IOException {
        Set<String> unnamed = testFiles("*Test.java");
        Matcher name = Pattern.compile("`([\\w*]*Test)`").matcher(page.substring(page.indexOf("## Tests")));
        while (name.find()) {
            Set<String> meant = testFiles(name.group(1) + ".java");
            CHECK.due("there is " + name.group(1), meant.isEmpty() ? 0 : 1, 1);
            unnamed.removeAll(meant);
        }
        CHECK.due("tests that README.md does not name", unnamed.toString(), "[]");
    }

    private void onlyTestsHaveMain() throws IOException {
        Set<String> withMain = new TreeSet<>();
        for (String file : testFiles("*.java")) {
            if (Files.readString(root.resolve("src/test/java").resolve(file)).contains("\n    public static void main(")) {
                withMain.add(file);
            }
        }
        CHECK.due("files with a main method", withMain.toString(), testFiles("*Test.java").toString());
    }

    private Set<String> testFiles(String pattern) throws IOException {
        Set<String> names = new TreeSet<>();
        try (DirectoryStream<Path> files = Files.newDirectoryStream(root.resolve("src/test/java"), pattern)) {
            for (Path file : files) {
                names.add(file.getFileName().toString());
            }
        }
        return names;
    }
}
