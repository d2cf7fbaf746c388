import java.io.IOException;
import java.lang.reflect.Field;
import java.lang.reflect.Method;
import java.lang.reflect.Modifier;
import java.nio.file.Files;
import java.nio.file.Path;
import java.util.ArrayList;
import java.util.HashSet;
import java.util.List;
import java.util.Set;
import java.util.regex.Matcher;
import java.util.regex.Pattern;

/** The rules of LANGUAGE.md that can be looked at without reading the program as a whole. */
public final class LanguageTest {
    private static final Check CHECK = new Check();
    private static final String COMMENT = "(?s)/\\*.*?\\*/|//[^\n]*";
    private static final String TEXT = "\"(\\\\.|[^\"\\\\])*\"";
    private static final String[] WORDS = {"package", "throw", "throws", "try", "catch", "finally", "synchronized", "assert", "var",
        "equals", "hashCode", "toString", "Exact", "Object", "Thread", "Random", "Math.random", "nanoTime", "currentTimeMillis",
        "protected", "native", "volatile", "transient", "NaN"};

    public static void main(String[] args) throws IOException {
        String code = Files.readString(Path.of("src/main/java/FinderBook.java")).replaceAll(COMMENT, "")
            .replaceAll(TEXT, "\"\"");
        oneFile();
        words(code);
        imports(code);
        classes();
        staticFields();
        methods();
        CHECK.end();
    }

    private static void oneFile() throws IOException {
        CHECK.about("the program is one file");
        try (var files = Files.walk(Path.of("src/main"))) {
            CHECK.due("files", files.filter(Files::isRegularFile).count(), 1);
        }
    }

    private static void words(String code) {
        CHECK.about("rules 2, 5, 6, 10 and 13: what is not in the program");
        for (String word : WORDS) {
            CHECK.due(word, Pattern.compile("\\b" + word + "\\b").matcher(code).find(), false);
        }
        CHECK.due("lambdas", code.contains("->"), false);
        CHECK.due("method references", code.contains("::"), false);
        CHECK.due("static blocks", Pattern.compile("static\\s*\\{").matcher(code).find(), false);
        CHECK.due("texts joined by +", Pattern.compile("\"\"\\s*\\+|\\+\\s*\"\"").matcher(code).find(), false);
    }

    private static void imports(String code) {
        CHECK.about("rule 4: the library");
        Set<String> allowed = Set.of("java.util.Arrays", "java.util.ArrayList", "java.util.List", "java.util.Iterator");
        Matcher line = Pattern.compile("import ([^;]*);").matcher(code);
        while (line.find()) {
            CHECK.due("import " + line.group(1), allowed.contains(line.group(1)), true);
        }
        Set<String> called = Set.of("Arrays.fill", "System.arraycopy", "Math.min");
        Matcher call = Pattern.compile("\\b(Arrays|System|Math|Integer|Long|String|Character)\\.(\\w+)\\(").matcher(code);
        while (call.find()) {
            CHECK.due(call.group(), called.contains(call.group(1) + "." + call.group(2)), true);
        }
    }

    private static List<Class<?>> all() {
        List<Class<?>> all = new ArrayList<>(List.of(FinderBook.class.getDeclaredClasses()));
        all.add(FinderBook.class);
        return all;
    }

    private static void classes() {
        CHECK.about("rules 2 and 11: classes");
        CHECK.due("at most twelve", all().size() <= 12, true);
        for (Class<?> inside : FinderBook.class.getDeclaredClasses()) {
            CHECK.due(inside + " has none inside", inside.getDeclaredClasses().length, 0);
            long fields = List.of(inside.getDeclaredFields()).stream().filter(field -> !Modifier.isStatic(field.getModifiers())).count();
            CHECK.due(inside + " has at most twenty fields", fields <= 20, true);
        }
    }

    private static void staticFields() {
        CHECK.about("rule 5: static fields");
        for (Class<?> each : all()) {
            for (Field field : each.getDeclaredFields()) {
                boolean isConstant = Modifier.isFinal(field.getModifiers())
                    && Set.of("int", "long", "boolean", "char", "String").contains(field.getType().getSimpleName());
                CHECK.due(field.toString(), !Modifier.isStatic(field.getModifiers()) || isConstant, true);
            }
        }
    }

    private static void methods() {
        CHECK.about("rules 1 and 11: methods");
        Set<String> open = new HashSet<>();
        for (Method method : FinderBook.class.getDeclaredMethods()) {
            if (Modifier.isPublic(method.getModifiers())) {
                open.add(method.getName());
            }
        }
        for (Class<?> each : all()) {
            for (Method method : each.getDeclaredMethods()) {
                boolean isOpen = Modifier.isPublic(method.getModifiers());
                CHECK.due(method + " has a name of its own", isOpen || !open.contains(method.getName()), true);
                CHECK.due(method + " has at most seven parameters", method.getParameterCount() <= 7, true);
            }
        }
    }
}
