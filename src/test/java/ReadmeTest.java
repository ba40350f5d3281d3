import java.net.URL;
import java.net.URLClassLoader;
import java.nio.file.Files;
import java.nio.file.Path;
import java.util.ArrayList;
import java.util.HashSet;
import java.util.List;
import java.util.Set;
import java.util.regex.Matcher;
import java.util.regex.Pattern;
import javax.tools.JavaCompiler;
import javax.tools.ToolProvider;

/**
 * What README.md says is so: its example is compiled and run, each call held against the answer written behind
 * it; the calls and the files that it names are those there are. It is run from the project's own place.
 */
public final class ReadmeTest {
    private static final Pattern BLOCK = Pattern.compile("(?s)```java\n(.*?)```");
    private static final Pattern ANSWERED = Pattern.compile("^(mirror\\..*\\));\\s*// (-?\\d+|true|false): .*$");
    private static final String[] FILES = {"src/main/java/OneMirror.java", "../shared/DOC.md", "../shared/LANGUAGE.md",
        "../shared/tests", "src/test/java", "NOTES.md", ".ci/run", "src/test/java/EdgeAskTest.java",
        "src/test/java/ModelTest.java", "src/test/java/ReadmeTest.java"};

    private ReadmeTest() {
    }

    public static void main(String[] args) throws Exception {
        String readme = Files.readString(Path.of("README.md"));
        names(readme);
        files(readme);
        example(readme);
        Check.finish();
    }

    private static void holds(String what, boolean does) {
        Check.due(what, does, true);
    }

    /** The table has each call of the face, and no other one. */
    private static void names(String readme) {
        Set<String> named = new HashSet<>();
        for (String line : readme.split("\n")) {
            if (line.startsWith("| `")) {
                Matcher matcher = Pattern.compile("`(\\w+)`").matcher(line.substring(0, line.indexOf('|', 1)));
                while (matcher.find()) {
                    holds(matcher.group(1) + " stands in the table once", named.add(matcher.group(1)));
                }
            }
        }
        Set<String> there = new HashSet<>();
        for (java.lang.reflect.Method method : OneMirror.class.getMethods()) {
            if (method.getDeclaringClass() == OneMirror.class) {
                there.add(method.getName());
            }
        }
        holds("the table has " + there + ", and is " + named, named.equals(there));
    }

    private static void files(String readme) {
        for (String file : FILES) {
            String name = file.substring(file.lastIndexOf('/') + 1).replaceAll("Test\\.java$", "Test");
            holds("README names " + name, readme.contains(name));
            holds(file + " is there", Files.exists(Path.of(file)));
        }
        holds(".ci/run can be run", Files.isExecutable(Path.of(".ci/run")));
    }

    private static void example(String readme) throws Exception {
        List<String> blocks = new ArrayList<>();
        Matcher matcher = BLOCK.matcher(readme);
        while (matcher.find()) {
            blocks.add(matcher.group(1));
        }
        Check.due("blocks of Java", blocks.size(), 2);
        if (blocks.size() == 2) {
            compileAndRun("public final class ReadmeExample {\n" + blocks.get(0)
                + "public static void play(java.util.List<Object[]> answers) {\n" + answersKept(blocks.get(1))
                + "}\n}\n");
        }
    }

    /** Each line is a call with its answer behind it, a text that is put, or the making of the object. */
    private static String answersKept(String block) {
        StringBuilder code = new StringBuilder();
        for (String line : block.split("\n")) {
            Matcher answered = ANSWERED.matcher(line);
            if (answered.matches()) {
                code.append("answers.add(new Object[] {\"").append(answered.group(1)).append("\", ")
                    .append(answered.group(1)).append(", ").append(answered.group(2)).append("});\n");
            } else {
                holds("a call without an answer: " + line, !line.startsWith("mirror."));
                code.append(line).append('\n');
            }
        }
        return code.toString();
    }

    private static void compileAndRun(String code) throws Exception {
        JavaCompiler compiler = ToolProvider.getSystemJavaCompiler();
        holds("there is a compiler", compiler != null);
        if (compiler == null) {
            return;
        }
        Path place = Files.createTempDirectory("readme");
        Path source = place.resolve("ReadmeExample.java");
        Path compiled = place.resolve("ReadmeExample.class");
        Files.writeString(source, code);
        String classes = System.getProperty("java.class.path");
        int failed = compiler.run(null, null, null, "-cp", classes, "-d", place.toString(), source.toString());
        Check.due("README's example compiles", failed, 0);
        if (failed == 0) {
            runFrom(place);
        }
        for (Path made : List.of(source, compiled, place)) {
            Files.deleteIfExists(made);
        }
    }

    /** The example has a loader of its own and does not see Check: it hands out call, answer and what is due. */
    private static void runFrom(Path place) throws Exception {
        List<Object[]> answers = new ArrayList<>();
        try (URLClassLoader loader = new URLClassLoader(new URL[] {place.toUri().toURL()})) {
            loader.loadClass("ReadmeExample").getMethod("play", List.class).invoke(null, answers);
        }
        for (Object[] one : answers) {
            holds("README: " + one[0] + " answered " + one[1] + ", README says " + one[2], one[1].equals(one[2]));
        }
        holds("the example was played", answers.size() > 20);
    }
}
