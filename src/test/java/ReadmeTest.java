import java.io.File;
import java.lang.reflect.Array;
import java.lang.reflect.Field;
import java.lang.reflect.Method;
import java.lang.reflect.Modifier;
import java.net.URL;
import java.net.URLClassLoader;
import java.nio.file.Files;
import java.nio.file.Path;
import java.util.ArrayList;
import java.util.Arrays;
import java.util.List;
import java.util.TreeSet;
import java.util.regex.Matcher;
import java.util.regex.Pattern;
import javax.tools.ToolProvider;

/** What README.md says of the class and of its tests is so. */
public final class ReadmeTest {
    private static final Path README = Path.of("README.md");
    private static final Path TESTS = Path.of("src/test/java");
    private static final Pattern EXAMPLE_LINE =
            Pattern.compile("(?:(\\w+) (\\w+) = )?(.+?);(?:\\s+// (-?\\d+|true|false)\\b.*)?");
    private static final Pattern METHOD = Pattern.compile("- `(\\w+) (\\w+)\\(([^)]*)\\)` (.*)");
    private static final Pattern REFUSAL = Pattern.compile("`(\\w+Exception)`:");
    private static final Pattern ROWS = Pattern.compile("(\\d+) arrays with (\\d+) elements");
    private static final Pattern TEST = Pattern.compile("`(\\w+Test)`");

    private final Due due = new Due();
    private final String text;
    private int arrays = 0;
    private int elements = 0;

    private ReadmeTest(String text) {
        this.text = text;
    }

    public static void main(String[] args) throws Exception {
        ReadmeTest test = new ReadmeTest(Files.readString(README));
        test.exampleAnswersAsItSays();
        test.everyMethodIsTold();
        test.rowsAreCounted();
        test.everyTestIsNamed();
        test.due.end();
    }

    private String between(String from, String to) {
        int start = text.indexOf(from);
        int end = start < 0 ? -1 : text.indexOf(to, start + from.length());
        due.holds("README.md has '" + from.trim() + "' to '" + to.trim() + "'", end >= 0);
        return end < 0 ? "" : text.substring(start + from.length(), end);
    }

    private void exampleAnswersAsItSays() throws Exception {
        StringBuilder body = new StringBuilder();
        List<String> lines = new ArrayList<>();
        List<String> want = new ArrayList<>();
        for (String line : between("```java\n", "```").split("\n")) {
            Matcher told = EXAMPLE_LINE.matcher(line);
            if (!told.matches()) {
                due.equal("a line that is no statement", line, "");
                continue;
            }
            if (told.group(4) == null) {
                body.append(line).append('\n');
                continue;
            }
            lines.add(line);
            want.add(told.group(4));
            boolean isNamed = told.group(2) != null;
            String value = isNamed ? told.group(2) : told.group(3);
            body.append(isNamed ? line + "\n" : "").append("said.add(\"\" + ").append(value).append(");\n");
        }
        List<String> said = run(body.toString());
        due.holds("the example has answers", !want.isEmpty());
        due.equal("how many it gave", said.size(), want.size());
        for (int i = 0; i < Math.min(want.size(), said.size()); i++) {
            due.equal("'" + lines.get(i) + "'", said.get(i), want.get(i));
        }
    }

    private List<String> run(String body) throws Exception {
        Path folder = Files.createTempDirectory("readme");
        Path source = folder.resolve("Example.java");
        Files.writeString(source, "public class Example {\npublic static java.util.List<String> said() {\n"
                + "java.util.List<String> said = new java.util.ArrayList<>();\n" + body + "return said;\n}\n}\n");
        try {
            int refused = ToolProvider.getSystemJavaCompiler().run(null, null, null, "-cp",
                    System.getProperty("java.class.path"), "-d", folder.toString(), source.toString());
            due.equal("the example compiles: exit", refused, 0);
            return refused == 0 ? answers(folder) : List.of();
        } finally {
            for (File file : folder.toFile().listFiles()) {
                file.delete();
            }
            Files.delete(folder);
        }
    }

    private static List<String> answers(Path folder) throws Exception {
        URL[] places = {folder.toUri().toURL()};
        try (URLClassLoader loader = new URLClassLoader(places, ReadmeTest.class.getClassLoader())) {
            List<String> said = new ArrayList<>();
            for (Object one : (List<?>) loader.loadClass("Example").getMethod("said").invoke(null)) {
                said.add((String) one);
            }
            return said;
        }
    }

    private void everyMethodIsTold() {
        TreeSet<String> told = new TreeSet<>();
        for (String entry : between("## Its methods\n", "\n\nWhere a call").split("\n(?=- )")) {
            Matcher method = METHOD.matcher(entry.replaceAll("\\s+", " "));
            if (method.matches()) {
                told.add(method.group(1) + " " + method.group(2) + "(" + typesOf(method.group(3)) + ") refuses "
                        + refusals(method.group(4)));
            }
        }
        TreeSet<String> real = new TreeSet<>();
        for (Method method : ProofLeaves.class.getDeclaredMethods()) {
            if (Modifier.isPublic(method.getModifiers())) {
                real.add(method.getReturnType() + " " + method.getName() + "(" + names(method.getParameterTypes())
                        + ") refuses " + Arrays.asList(names(method.getExceptionTypes()).split(", ")));
            }
        }
        due.equal("how many methods", told.size(), 15);
        due.equal("methods with their refusals in order", told.toString(), real.toString());
    }

    private static String typesOf(String parameters) {
        return parameters.replaceAll("(\\w+) \\w+", "$1");
    }

    private static List<String> refusals(String words) {
        List<String> named = new ArrayList<>();
        Matcher refusal = REFUSAL.matcher(words);
        while (refusal.find()) {
            named.add(refusal.group(1));
        }
        return named;
    }

    private static String names(Class<?>[] types) {
        List<String> names = new ArrayList<>();
        for (Class<?> type : types) {
            names.add(type.getSimpleName());
        }
        return String.join(", ", names);
    }

    private void rowsAreCounted() throws IllegalAccessException {
        Matcher rows = ROWS.matcher(text);
        due.holds("README.md counts the rows", rows.find());
        countRowsOf(new ProofLeaves());
        due.equal("arrays", rows.group(1), Integer.toString(arrays));
        due.equal("elements", rows.group(2), Integer.toString(elements));
    }

    private void countRowsOf(Object holder) throws IllegalAccessException {
        for (Field field : holder.getClass().getDeclaredFields()) {
            if (Modifier.isStatic(field.getModifiers()) || field.getType().isPrimitive()) {
                continue;
            }
            field.setAccessible(true);
            Object held = field.get(holder);
            if (held.getClass().isArray()) {
                countRow(held);
            } else {
                countRowsOf(held);
            }
        }
    }

    private void countRow(Object row) {
        arrays++;
        int length = Array.getLength(row);
        elements += length;
        for (int i = 0; i < length && row instanceof Object[]; i++) {
            countRow(Array.get(row, i));
        }
    }

    private void everyTestIsNamed() {
        TreeSet<String> named = new TreeSet<>();
        Matcher test = TEST.matcher(text);
        while (test.find()) {
            named.add(test.group(1));
        }
        TreeSet<String> there = new TreeSet<>();
        for (File file : TESTS.toFile().listFiles()) {
            if (file.getName().endsWith("Test.java")) {
                there.add(file.getName().replace(".java", ""));
            }
        }
        due.equal("tests named", named.toString(), there.toString());
    }
}
