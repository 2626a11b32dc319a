import java.io.File;
import java.io.IOException;
import java.lang.reflect.Field;
import java.lang.reflect.Method;
import java.lang.reflect.Modifier;
import java.net.URL;
import java.net.URLClassLoader;
import java.nio.charset.StandardCharsets;
import java.nio.file.Files;
import java.nio.file.Path;
import java.util.ArrayList;
import java.util.Collections;
import java.util.HashSet;
import java.util.List;
import java.util.Set;
import java.util.regex.Matcher;
import java.util.regex.Pattern;
import javax.tools.JavaCompiler;
import javax.tools.ToolProvider;

/** What README.md says holds: its Java lines, and its tables of calls, constants and tests. Run from the project's folder. */
public final class ReadmeTest {
    private static final String EXAMPLE = "ReadmeExample";
    private static final Pattern ANSWERED = Pattern.compile("(looks\\.(\\w+)\\(.*\\)); // ([-\\w.]+)(?::.*)?");

    public static void main(String[] args) throws IOException, ReflectiveOperationException {
        String page = Files.readString(Path.of("README.md"), StandardCharsets.UTF_8);
        Set<String> called = new HashSet<>();
        run(exampleOf(page, called));
        calls(page, called);
        constants(page);
        tests(page);
        Due.end();
    }

    /** All Java lines of the page as one method; those with an answer behind them are compared with it. */
    private static String exampleOf(String page, Set<String> called) {
        StringBuilder code = new StringBuilder("public final class " + EXAMPLE + " {\n")
                .append("    public static java.util.List<Object[]> run() {\n")
                .append("        java.util.List<Object[]> answers = new java.util.ArrayList<>();\n");
        Matcher blocks = Pattern.compile("(?ms)^```java\\n(.*?)^```").matcher(page);
        while (blocks.find()) {
            for (String line : blocks.group(1).split("\n")) {
                Matcher answered = ANSWERED.matcher(line);
                Due.holds("an answer is read in README.md: " + line, answered.matches() || !line.contains("//"));
                code.append(answered.matches() ? answer(answered) : line).append('\n');
                if (answered.matches()) {
                    called.add(answered.group(2));
                }
            }
        }
        return code.append("        return answers;\n    }\n}\n").toString();
    }

    /** The call's words, its answer and the one that is due, for compare(). */
    private static String answer(Matcher answered) {
        String call = answered.group(1);
        String due = answered.group(3);
        if (due.equals("NaN")) {
            due = "Float.NaN";
        } else if (due.matches("[A-Z_]+")) {
            due = "AncestorLooks." + due;
        }
        return "answers.add(new Object[] {\"" + call.replace("\"", "\\\"") + "\", " + call + ", " + due + "});";
    }

    private static void compare(Object[] answer) {
        String call = "README.md: " + answer[0];
        Due.holds(call + " and what stands behind it are of one type", answer[1].getClass() == answer[2].getClass());
        if (answer[1] instanceof Float) {
            Due.real(call, (Float) answer[1], ((Number) answer[2]).floatValue());
        } else {
            Due.is(call, (Integer) answer[1], ((Number) answer[2]).intValue());
        }
    }

    private static void run(String code) throws IOException, ReflectiveOperationException {
        JavaCompiler compiler = ToolProvider.getSystemJavaCompiler();
        Due.holds("there is a compiler for the Java lines of README.md", compiler != null);
        if (compiler == null) {
            return;
        }
        Path folder = Files.createTempDirectory("readme");
        Path source = folder.resolve(EXAMPLE + ".java");
        Path compiled = folder.resolve(EXAMPLE + ".class");
        try {
            Files.writeString(source, code, StandardCharsets.UTF_8);
            int ended = compiler.run(null, null, null, "-cp", System.getProperty("java.class.path"), "-d",
                    folder.toString(), source.toString());
            Due.is("compiling the Java lines of README.md", ended, 0);
            if (ended == 0) {
                try (URLClassLoader loader = new URLClassLoader(new URL[] {folder.toUri().toURL()})) {
                    List<?> answers = (List<?>) loader.loadClass(EXAMPLE).getMethod("run").invoke(null);
                    for (Object answer : answers) {
                        compare((Object[]) answer);
                    }
                }
            }
        } finally {
            Files.deleteIfExists(source);
            Files.deleteIfExists(compiled);
            Files.deleteIfExists(folder);
        }
    }

    /** The first cells of the rows that match, each once. */
    private static List<String> rows(String page, String cell) {
        List<String> found = new ArrayList<>();
        Matcher rows = Pattern.compile("(?m)^\\| `(" + cell + ")` \\|").matcher(page);
        while (rows.find()) {
            Due.holds("one row of README.md: " + rows.group(1), !found.contains(rows.group(1)));
            found.add(rows.group(1));
        }
        return found;
    }

    private static void calls(String page, Set<String> called) {
        List<String> rows = rows(page, "\\w+\\([^)]*\\)");
        int methods = 0;
        for (Method method : AncestorLooks.class.getDeclaredMethods()) {
            if (Modifier.isPublic(method.getModifiers())) {
                methods++;
                String name = method.getName();
                String parameters = String.join(", ", Collections.nCopies(method.getParameterCount(), "\\w+"));
                Due.holds("README.md has a row of " + name,
                        rows.stream().anyMatch(row -> row.matches(name + "\\(" + parameters + "\\)")));
                Due.holds("README.md shows an answer of " + name, called.contains(name));
            }
        }
        Due.is("the calls in README.md", rows.size(), methods);
    }

    private static void constants(String page) throws IllegalAccessException {
        int constants = 0;
        for (Field field : AncestorLooks.class.getDeclaredFields()) {
            if (Modifier.isPublic(field.getModifiers())) {
                constants++;
                String row = "| `" + field.getName() + "` | " + field.getInt(null) + " | ";
                Due.holds("README.md has the row " + row, page.contains(row));
            }
        }
        Due.is("the constants in README.md", rows(page, "[A-Z_]+").size(), constants);
    }

    private static void tests(String page) {
        List<String> rows = rows(page, "\\w+Test");
        String[] files = new File("src/test/java").list((folder, name) -> name.endsWith("Test.java"));
        Due.holds("there are tests", files != null && files.length > 0);
        for (String file : files == null ? new String[0] : files) {
            Due.holds("README.md has a row of " + file, rows.contains(file.replace(".java", "")));
        }
        Due.is("the tests in README.md", rows.size(), files == null ? 0 : files.length);
    }
}
