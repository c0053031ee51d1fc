import java.io.IOException;
import java.nio.file.Path;
import java.util.List;

/** Holds .ci/run: it runs every test of a project and of ../shared/tests, and fails if one of them fails. */
public final class RunTest {
    private static final Check CHECK = new Check();
    // By sh, as temporary folders may forbid to run what stands in them; ReadmeTest looks at whether it can be run.
    private static final String RUN = "sh .ci/run";
    private static final String OWN = "src/test/java/";
    private static final String SHARED = "../shared/tests/";

    private final Path root;

    private RunTest(Path root) {
        this.root = root;
    }

    /** A small project's name for what is wrong with it, and the file that makes it so. */
    private record Wrong(String when, String file, String text) {
    }

    // Each project is in a folder of its own, so they are run side by side: one after another takes half a minute.
    public static void main(String[] args) {
        RunTest test = new RunTest(Check.root(args));
        List<Runnable> cases = List.of(
            () -> test.passes(),
            () -> test.fails(ending("a project test ends with 1", OWN + "MidTest.java", 1)),
            () -> test.fails(holding("a project test throws", OWN + "MidTest.java", "int[] none = {}; none[0]++;")),
            () -> test.fails(holding("a project test does not compile", OWN + "MidTest.java", "x")),
            () -> test.fails(ending("a shared test ends with 1", SHARED + "Mid.java", 1)),
            () -> test.fails(ending("a shared test ends with 77", SHARED + "Mid.java", 77)),
            () -> test.fails(ending("a shared test in a folder there ends with 1", SHARED + "deep er/Mid.java", 1)),
            () -> test.fails(holding("a shared test does not compile", SHARED + "Mid.java", "x")),
            () -> test.fails(new Wrong("a shared test has no main method", SHARED + "Mid.java", "final class Mid { }")),
            () -> test.failsAlone(new Wrong("no project tests", SHARED + "One.java", good("One"))),
            () -> test.failsAlone(new Wrong("no shared tests", OWN + "OneTest.java", good("OneTest"))));
        cases.parallelStream().forEach(Runnable::run);
        CHECK.end();
    }

    private static Wrong holding(String when, String file, String body) {
        return new Wrong(when, file, test(nameOf(file), body));
    }

    private static Wrong ending(String when, String file, int code) {
        return new Wrong(when, file, asking(nameOf(file), HungStreams.NO, code));
    }

    private static String nameOf(String file) {
        return file.replaceAll(".*/|\\.java", "");
    }

    private static String test(String name, String body) {
        return "public final class " + name + " { public static void main(String[] args) { " + body + " } }\n";
    }

    private static String asking(String name, int due, int code) {
        return test(name, "if (new HungStreams().next() != " + due + ") { System.exit(" + code + "); }");
    }

    private static String good(String name) {
        return asking(name, HungStreams.NONE, 1);
    }

    private SmallProject empty() throws IOException {
        SmallProject project = new SmallProject(root);
        project.take(".ci/run");
        project.take("src/main/java/HungStreams.java");
        return project;
    }

    // One that passes is run ahead of what is wrong and one behind it: neither may hide it.
    private SmallProject withGoodTests() throws IOException {
        SmallProject project = empty();
        project.write(OWN + "EndTest.java", good("EndTest"));
        project.write(OWN + "ZestTest.java", good("ZestTest"));
        project.write(SHARED + "End.java", good("End"));
        project.write(SHARED + "Zest.java", good("Zest"));
        return project;
    }

    private static int exitCode(SmallProject project, String command) throws IOException {
        try {
            return project.run(command);
        } catch (InterruptedException e) {
            throw new IOException(e);
        }
    }

    private static void passed(String when, SmallProject project, String name, int due) {
        CHECK.due(when + ", passed: " + name, project.printed().contains("passed: " + name + "\n") ? 1 : 0, due);
    }

    private static void passedGoodTests(String when, SmallProject project) {
        for (String name : List.of("project EndTest", "project ZestTest", "shared End", "shared Zest")) {
            passed(when, project, name, 1);
        }
    }

    private void passes() {
        try (SmallProject project = withGoodTests()) {
            project.write(OWN + "Helper.java", "final class Helper { }");
            for (String command : List.of(RUN, "here=$PWD; cd / && sh \"$here/.ci/run\"")) {
                CHECK.due("all pass by " + command, exitCode(project, command), 0);
                passedGoodTests("all pass by " + command, project);
            }
        } catch (IOException e) {
            throw new IllegalStateException(e);
        }
    }

    private void fails(Wrong wrong) {
        try (SmallProject project = withGoodTests()) {
            project.write(wrong.file, wrong.text);
            CHECK.due(wrong.when, exitCode(project, RUN) == 0 ? 0 : 1, 1);
            passedGoodTests(wrong.when, project);
            passed(wrong.when, project, (wrong.file.startsWith(OWN) ? "project " : "shared ") + nameOf(wrong.file), 0);
        } catch (IOException e) {
            throw new IllegalStateException(e);
        }
    }

    private void failsAlone(Wrong wrong) {
        try (SmallProject project = empty()) {
            project.write(wrong.file, wrong.text);
            CHECK.due(wrong.when, exitCode(project, RUN) == 0 ? 0 : 1, 1);
        } catch (IOException e) {
            throw new IllegalStateException(e);
        }
    }
}
