import java.io.IOException;
import java.lang.reflect.InvocationTargetException;
import java.net.URL;
import java.net.URLClassLoader;
import java.nio.file.Files;
import java.nio.file.Path;
import java.util.List;
import java.util.regex.Matcher;
import java.util.regex.Pattern;
import java.util.stream.Stream;
import javax.tools.ToolProvider;

/** The examples of README.md are compiled and run: an answer behind // must be the one that the class gives. */
public final class ReadmeTest {
    private static final Path README = Path.of("README.md"), TESTS = Path.of("src/test/java");
    private static final Pattern BLOCK = Pattern.compile("```java\n(.*?)```", Pattern.DOTALL);
    private static final Pattern ANSWER = Pattern.compile("^(?:int|long) (\\w+) = x\\.\\w+\\(.*\\); *// (-?\\d+)(?::.*)?$");
    private static int wrong;
    private static int answers;

    private static void tell(String what) {
        wrong++;
        System.out.println("README: " + what);
    }

    /** The examples call this, from a class that is made of them. */
    public static void due(String line, long got, long want) {
        answers++;
        if (got != want) tell(line + " is " + got);
    }

    public static void main(String[] args) throws IOException, ReflectiveOperationException {
        String page = Files.readString(README);
        int blocks = 0;
        for (Matcher m = BLOCK.matcher(page); m.find(); ) run("Example" + ++blocks, m.group(1));
        if (answers == 0) tell("no example has an answer");
        namesEachTest(page);
        namesEachAnswer(page);
        System.out.println("ReadmeTest: " + (wrong == 0 ? answers + " answers of " + blocks + " examples are as the page says" : wrong + " wrong"));
        if (wrong != 0) System.exit(1);
    }

    private static void run(String name, String example) throws IOException, ReflectiveOperationException {
        Path dir = Files.createTempDirectory("readme");
        Path file = dir.resolve(name + ".java");
        Files.writeString(file, source(name, example));
        String[] options = {"-cp", System.getProperty("java.class.path"), "-d", dir.toString(), file.toString()};
        if (ToolProvider.getSystemJavaCompiler().run(null, null, null, options) != 0) {
            tell(name + " does not compile");
        } else {
            try (URLClassLoader loader = new URLClassLoader(new URL[] {dir.toUri().toURL()})) {
                loader.loadClass(name).getMethod("run").invoke(null);
            } catch (InvocationTargetException e) {
                tell(name + " threw " + e.getCause());
            }
        }
        remove(dir);
    }

    private static String source(String name, String example) {
        StringBuilder s = new StringBuilder("public class " + name + " { public static void run() {\n");
        for (String line : example.split("\n")) {
            s.append(line).append('\n');
            Matcher m = ANSWER.matcher(line);
            if (m.matches()) s.append("ReadmeTest.due(\"" + m.group(1) + "\", " + m.group(1) + ", " + m.group(2) + ");\n");
            else if (line.contains("//")) tell("no answer is found in: " + line);
        }
        return s.append("} }\n").toString();
    }

    private static void remove(Path dir) throws IOException {
        List<Path> files;
        try (Stream<Path> s = Files.list(dir)) {
            files = s.toList();
        }
        for (Path f : files) Files.delete(f);
        Files.delete(dir);
    }

    private static void namesEachTest(String page) throws IOException {
        try (Stream<Path> files = Files.list(TESTS)) {
            for (Path f : files.sorted().toList()) {
                String name = f.getFileName().toString().replace(".java", "");
                if (!page.contains("`" + name + "`")) tell("does not name " + name);
            }
        }
    }

    private static void namesEachAnswer(String page) {
        String[] rows = {"`BAD` " + LastPenny.BAD, "`STATE` " + LastPenny.STATE, "`FULL` " + LastPenny.FULL, "`NONE` " + LastPenny.NONE};
        for (String row : rows) if (!page.contains("| " + row + " |")) tell("does not say " + row);
    }
}
