import java.lang.management.ManagementFactory;
import java.lang.reflect.Constructor;
import java.lang.reflect.Field;
import java.lang.reflect.Method;
import java.lang.reflect.Modifier;
import java.nio.file.Files;
import java.nio.file.Path;
import java.util.ArrayList;
import java.util.Arrays;
import java.util.List;
import java.util.Set;
import java.util.TreeSet;
import java.util.regex.Matcher;
import java.util.regex.Pattern;

/** The document's public face, the rules of LANGUAGE.md that can be seen from outside, and the room a run takes. */
public final class RulesTest {
    private static final Check CHECK = new Check();
    private static final String[] FACE = {"int comes(int,int,int,int)", "int moves(int,int,int,int)",
        "int sets(int,int,int)", "int closes(int)", "int of(int,int)", "long turn(int,int)", "int child(int,int)",
        "int common(int,int)", "int readies(int,int)", "int window(int,int)", "int settings(int,int)",
        "int sends(int)", "int next()", "long share(int,int)", "int all(int)", "int type(int)", "int clear()",
        "int builds()", "int shown(int)", "int back()", "int told(int)", "long digest()"};

    public static void main(String[] args) throws Exception {
        face();
        inside();
        words(Files.readString(Path.of(args.length > 0 ? args[0] : "src/main/java/HungStreams.java")));
        room();
        CHECK.end();
    }

    private static String face(Method m) {
        StringBuilder text = new StringBuilder(m.getReturnType() + " " + m.getName() + "(");
        for (Class<?> type : m.getParameterTypes()) {
            text.append(text.charAt(text.length() - 1) == '(' ? "" : ",").append(type);
        }
        return text.append(")").toString();
    }

    private static void face() {
        CHECK.due("class", Modifier.toString(HungStreams.class.getModifiers()), "public final");
        Set<String> methods = new TreeSet<>();
        for (Method m : HungStreams.class.getDeclaredMethods()) {
            if (!Modifier.isPrivate(m.getModifiers())) {
                methods.add(Modifier.toString(m.getModifiers()) + " " + face(m));
            }
        }
        Set<String> due = new TreeSet<>();
        for (String m : FACE) {
            due.add("public " + m);
        }
        CHECK.due("methods", methods.toString(), due.toString());
        Set<String> fields = new TreeSet<>();
        for (Field f : HungStreams.class.getDeclaredFields()) {
            if (!Modifier.isPrivate(f.getModifiers())) {
                fields.add(Modifier.toString(f.getModifiers()) + " " + f.getType() + " " + f.getName());
            }
        }
        CHECK.due("constants", fields.toString(), "[public static final int BAD, public static final int FULL, "
            + "public static final int NO, public static final int NONE]");
        Constructor<?>[] made = HungStreams.class.getDeclaredConstructors();
        CHECK.due("constructors", Arrays.toString(made), "[public HungStreams()]");
        CHECK.due("NONE", HungStreams.NONE, -1);
        CHECK.due("BAD", HungStreams.BAD, -2);
        CHECK.due("NO", HungStreams.NO, -3);
        CHECK.due("FULL", HungStreams.FULL, -4);
    }

    private static void inside() {
        List<Class<?>> classes = new ArrayList<>(List.of(HungStreams.class.getDeclaredClasses()));
        CHECK.due("at most some twelve classes", classes.size() < 12 ? 1 : 0, 1);
        for (Class<?> c : classes) {
            int mods = c.getModifiers();
            boolean fine = Modifier.isStatic(mods) && !Modifier.isPublic(mods) && !Modifier.isProtected(mods);
            CHECK.due("class inside: " + c, fine ? 1 : 0, 1);
        }
        classes.add(HungStreams.class);
        Set<String> names = new TreeSet<>();
        for (String m : FACE) {
            names.add(m.replaceAll(".* |\\(.*", ""));
        }
        for (Class<?> c : classes) {
            int fields = 0;
            for (Field f : c.getDeclaredFields()) {
                boolean isStatic = Modifier.isStatic(f.getModifiers());
                fields += isStatic ? 0 : 1;
                CHECK.due("static and final: " + f, isStatic && !Modifier.isFinal(f.getModifiers()) ? 1 : 0, 0);
            }
            CHECK.due("at most some twenty fields: " + c, fields <= 20 ? 1 : 0, 1);
            for (Method m : c.getDeclaredMethods()) {
                boolean named = names.contains(m.getName()) && !Modifier.isPublic(m.getModifiers());
                CHECK.due("a name of the face: " + m, named ? 1 : 0, 0);
                CHECK.due("at most seven parameters: " + m, m.getParameterCount() <= 7 ? 1 : 0, 1);
            }
        }
    }

    private static void words(String source) {
        String code = source.replaceAll("(?s)/\\*.*?\\*/", " ").replaceAll("//[^\n]*", " ")
            .replaceAll("'\\\\?.'", "0").replaceAll("\"[^\"]*\"", "0");
        String[] banned = {"\\bthrows?\\b", "\\btry\\b", "\\bcatch\\b", "\\bsynchronized\\b", "\\bassert\\b", "->", "::",
            "\\w+Exact\\b", "\\bhashCode\\b", "\\bpackage\\b", "\\bimport\\b", "\\bSystem\\.(?!arraycopy)",
            "\\bstatic\\s*\\{", "\\bRandom\\b", "\\bThread\\b", "\\bObject\\b", "while\\s*\\(true\\)", "for\\s*\\(;;\\)"};
        for (String word : banned) {
            Matcher found = Pattern.compile(word).matcher(code);
            CHECK.due("not in the language: " + word, found.find() ? 1 : 0, 0);
        }
        int longest = 0;
        int begun = -1;
        String[] lines = source.split("\n");
        for (int i = 0; i < lines.length; i++) {
            if (lines[i].matches("( {4}| {8})(\\w[\\w\\[\\] ]*)\\(.*\\) \\{")) {
                begun = i;
            } else if (begun >= 0 && lines[i].matches("( {4}| {8})\\}")) {
                longest = Math.max(longest, i - begun);
                begun = -1;
            }
        }
        CHECK.due("methods found, and short", longest > 10 && longest <= 60 ? 1 : 0, 1);
    }

    // All calls of a run share one room: they must make next to nothing beside the object itself.
    private static void room() {
        com.sun.management.ThreadMXBean threads = (com.sun.management.ThreadMXBean) ManagementFactory.getThreadMXBean();
        long id = Thread.currentThread().getId();
        dearCalls(Check.built("1:1(2:1(3:1(4:1))) 5:1 6:1 7:1 8:1"));
        long ahead = threads.getThreadAllocatedBytes(id);
        HungStreams x = new HungStreams();
        long made = threads.getThreadAllocatedBytes(id);
        dearCalls(x);
        long behind = threads.getThreadAllocatedBytes(id);
        CHECK.due("room of an object in bytes: " + (made - ahead), made - ahead < 40000 ? 1 : 0, 1);
        CHECK.due("room of its calls in bytes: " + (behind - made), behind - made < 10000 ? 1 : 0, 1);
    }

    private static void dearCalls(HungStreams x) {
        for (int i = 0; i < 50; i++) {
            x.comes(1 + i % 12, i % 5, 1 + i % 16, i % 2);
            x.readies(1 + i % 12, 300);
            x.moves(1 + i % 7, i % 3, 5, 1);
            x.sends(100);
            x.share(1 + i % 12, 1);
            x.shown(i);
            x.closes(i % 4);
            x.back();
            x.builds();
            x.back();
            x.digest();
        }
    }
}
