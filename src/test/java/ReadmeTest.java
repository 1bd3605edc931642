import java.io.IOException;
import java.lang.reflect.InvocationTargetException;
import java.lang.reflect.Method;
import java.lang.reflect.Modifier;
import java.net.URL;
import java.net.URLClassLoader;
import java.nio.file.DirectoryStream;
import java.nio.file.Files;
import java.nio.file.Path;
import java.util.ArrayList;
import java.util.Comparator;
import java.util.List;
import java.util.NoSuchElementException;
import java.util.regex.Matcher;
import java.util.regex.Pattern;
import java.util.stream.Stream;
import javax.tools.ToolProvider;

/** README.md: its Java is compiled and run as it stands, and each call and test is named. */
public final class ReadmeTest {
    private static final Pattern ANSWERED = Pattern.compile("(x\\.\\w+\\(.*\\)); +// (throws )?([-\\w]+).*");
    private static final int LEAST_ANSWERS = 20;

    private static int wrong = 0;

    private static void due(boolean good, String what) {
        if (!good) {
            wrong++;
            System.out.println(what);
        }
    }

    /** The compiled lines call this by its name. */
    public static void answered(String call, Object got, Object due) {
        boolean same = got instanceof Boolean || due instanceof Boolean ? got.equals(due)
            : ((Number) got).longValue() == ((Number) due).longValue();
        due(same, call + " answered " + got + ", README.md says " + due);
    }

    /** The compiled lines call this where README.md says that a call throws. */
    public static void answeredAlthough(String call) {
        due(false, call + " answered, README.md says that it throws");
    }

    private static List<String> javaBlocks(String readme) {
        List<String> blocks = new ArrayList<>();
        Matcher block = Pattern.compile("(?s)```java\n(.*?)```").matcher(readme);
        while (block.find()) {
            blocks.add(block.group(1));
        }
        return blocks;
    }

    private static String checked(String lines) {
        StringBuilder code = new StringBuilder();
        int answers = 0;
        for (String line : lines.split("\n")) {
            Matcher call = ANSWERED.matcher(line);
            if (!call.matches()) {
                code.append(line).append('\n');
                continue;
            }
            answers++;
            String quoted = "\"" + call.group(1) + "\"";
            if (call.group(2) == null) {
                code.append("ReadmeTest.answered(" + quoted + ", " + call.group(1) + ", " + call.group(3) + ");\n");
            } else {
                code.append("try { " + call.group(1) + "; ReadmeTest.answeredAlthough(" + quoted + "); } catch ("
                    + call.group(3) + " e) { }\n");
            }
        }
        due(answers >= LEAST_ANSWERS, "README.md has only " + answers + " answers");
        return code.toString();
    }

    private static void run(String readme) throws IOException, ReflectiveOperationException {
        List<String> blocks = javaBlocks(readme);
        due(blocks.size() == 2, "README.md has " + blocks.size() + " pieces of Java");
        if (blocks.size() != 2) {
            return;
        }
        String source = "import " + NoSuchElementException.class.getName() + ";\npublic final class ReadmeRun {\n"
            + blocks.get(0) + "public static void run() {\n" + checked(blocks.get(1)) + "}\n}\n";
        Path folder = Files.createTempDirectory("readme");
        try {
            Path file = folder.resolve("ReadmeRun.java");
            Files.writeString(file, source);
            int failed = ToolProvider.getSystemJavaCompiler().run(null, null, null, "-cp",
                System.getProperty("java.class.path"), "-d", folder.toString(), file.toString());
            due(failed == 0, "the Java of README.md does not compile");
            if (failed == 0) {
                runCompiled(folder);
            }
        } finally {
            remove(folder);
        }
    }

    private static void runCompiled(Path folder) throws IOException, ReflectiveOperationException {
        try (URLClassLoader loader = new URLClassLoader(new URL[] {folder.toUri().toURL()}, ReadmeTest.class.getClassLoader())) {
            loader.loadClass("ReadmeRun").getMethod("run").invoke(null);
        } catch (InvocationTargetException e) {
            due(false, "the Java of README.md broke off: " + e.getCause());
        }
    }

    private static void remove(Path folder) throws IOException {
        try (Stream<Path> all = Files.walk(folder)) {
            for (Path path : (Iterable<Path>) all.sorted(Comparator.reverseOrder())::iterator) {
                Files.delete(path);
            }
        }
    }

    private static void names(String readme) throws IOException {
        for (Method method : OptionBench.class.getDeclaredMethods()) {
            if (Modifier.isPublic(method.getModifiers())) {
                due(readme.contains("`" + method.getName() + "`"), "README.md does not name " + method.getName());
            }
        }
        try (DirectoryStream<Path> tests = Files.newDirectoryStream(Path.of("src/test/java"), "*Test.java")) {
            for (Path test : tests) {
                String name = test.getFileName().toString().replace(".java", "");
                due(readme.contains("`" + name + "`"), "README.md does not name " + name);
            }
        }
        due(readme.contains("`.ci/run`"), "README.md does not say how all tests are run");
    }

    public static void main(String[] args) throws IOException, ReflectiveOperationException {
        String readme = Files.readString(Path.of("README.md"));
        run(readme);
        names(readme);
        System.out.println(wrong == 0 ? "README.md is as the class answers" : wrong + " things of README.md are wrong");
        if (wrong != 0) {
            System.exit(1);
        }
    }
}
