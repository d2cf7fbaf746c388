import java.io.IOException;
import java.lang.reflect.InvocationTargetException;
import java.lang.reflect.Method;
import java.lang.reflect.Modifier;
import java.net.URL;
import java.net.URLClassLoader;
import java.nio.file.Files;
import java.nio.file.Path;
import java.util.ArrayList;
import java.util.List;
import java.util.Set;
import java.util.TreeSet;
import java.util.regex.Matcher;
import java.util.regex.Pattern;
import java.util.stream.Stream;
import javax.tools.ToolProvider;

/** README.md: the code that it shows is made a program, whose answers are to be those that it shows. */
public final class ReadmeTest {
    private static final Check CHECK = new Check();
    private static final Pattern BLOCK = Pattern.compile("```java\n(.*?)```", Pattern.DOTALL);
    private static final Pattern SHOWN = Pattern.compile("(\\w+\\.\\w+\\(.*\\)); +// = (-?\\w+)(?:: .*)?");
    private static final Pattern TEST = Pattern.compile("^\\| `(\\w+Test)` \\|", Pattern.MULTILINE);

    public static void main(String[] args) throws IOException, ReflectiveOperationException {
        String page = Files.readString(Path.of("README.md"));
        showsTheAnswersOfTheClass(page);
        showsEveryCall(page);
        tellsAllTests(page);
        CHECK.end();
    }

    private static void showsTheAnswersOfTheClass(String page) throws IOException, ReflectiveOperationException {
        CHECK.about("README.md, what it shows");
        List<String> calls = new ArrayList<>();
        List<String> shown = new ArrayList<>();
        List<?> answers = answersOf(program(page, calls, shown));
        CHECK.due("answers", answers.size(), shown.size());
        for (int i = 0; i < shown.size() && i < answers.size(); i++) {
            CHECK.due(calls.get(i) + ", answer " + i, String.valueOf(answers.get(i)), shown.get(i));
        }
    }

    private static String program(String page, List<String> calls, List<String> shown) {
        StringBuilder methods = new StringBuilder();
        StringBuilder body = new StringBuilder();
        Matcher block = BLOCK.matcher(page);
        while (block.find()) {
            if (block.group(1).startsWith("static ")) {
                methods.append(block.group(1));
                continue;
            }
            for (String line : block.group(1).split("\n")) {
                Matcher call = SHOWN.matcher(line);
                CHECK.due("a line that shows an answer is read: " + line, call.matches(), line.contains("// ="));
                if (call.matches()) {
                    calls.add(call.group(1));
                    shown.add(call.group(2));
                    body.append("answers.add(").append(call.group(1)).append(");\n");
                } else {
                    body.append(line).append('\n');
                }
            }
        }
        return "public final class Example {\n" + methods + "public static java.util.List<Object> answers() {\n"
            + "java.util.List<Object> answers = new java.util.ArrayList<>();\n" + body + "return answers;\n}\n}\n";
    }

    private static List<?> answersOf(String program) throws IOException, ReflectiveOperationException {
        Path directory = Files.createTempDirectory("readme");
        Path file = directory.resolve("Example.java");
        try {
            Files.writeString(file, program);
            int fault = ToolProvider.getSystemJavaCompiler().run(null, null, null, "-cp",
                System.getProperty("java.class.path"), "-d", directory.toString(), file.toString());
            CHECK.due("the code that it shows is compiled", fault, 0);
            return fault == 0 ? called(directory) : List.of();
        } finally {
            Files.deleteIfExists(directory.resolve("Example.class"));
            Files.deleteIfExists(file);
            Files.delete(directory);
        }
    }

    private static List<?> called(Path directory) throws IOException, ReflectiveOperationException {
        try (URLClassLoader loader = new URLClassLoader(new URL[] {directory.toUri().toURL()})) {
            return (List<?>) loader.loadClass("Example").getMethod("answers").invoke(null);
        } catch (InvocationTargetException thrown) {
            CHECK.due("the code that it shows", thrown.getCause().toString(), "no throw");
            return List.of();
        }
    }

    private static void showsEveryCall(String page) {
        CHECK.about("README.md, the calls");
        for (Method method : FinderBook.class.getDeclaredMethods()) {
            if (Modifier.isPublic(method.getModifiers())) {
                CHECK.due("shows " + method.getName(), page.contains("book." + method.getName() + "("), true);
            }
        }
    }

    private static void tellsAllTests(String page) throws IOException {
        CHECK.about("README.md, the tests");
        Set<String> told = new TreeSet<>();
        Matcher test = TEST.matcher(page);
        while (test.find()) {
            told.add(test.group(1));
        }
        Set<String> there = new TreeSet<>();
        try (Stream<Path> files = Files.list(Path.of("src/test/java"))) {
            files.map(file -> file.getFileName().toString()).filter(name -> name.endsWith("Test.java"))
                .forEach(name -> there.add(name.substring(0, name.length() - ".java".length())));
        }
        CHECK.due("the tests that it tells", told.toString(), there.toString());
    }
}
