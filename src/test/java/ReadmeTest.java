import java.io.IOException;
import java.lang.reflect.Method;
import java.lang.reflect.Modifier;
import java.net.URL;
import java.net.URLClassLoader;
import java.nio.file.Files;
import java.nio.file.Path;
import java.util.ArrayList;
import java.util.List;
import java.util.Set;
import java.util.TreeSet;
import java.util.regex.Matcher;
import java.util.regex.Pattern;
import javax.tools.JavaCompiler;
import javax.tools.ToolProvider;

/**
 * The calls that README.md shows answer what it says they answer. Its java parts are one program; each
 * line of it has behind it the answer that is due, and after a colon what that means.
 */
public final class ReadmeTest {
    private static final String FIRST = "PageSlabs x = new PageSlabs();";
    /** What is set, if something is: 1, 2; the call: 3, its name: 4; the answer: 5. */
    private static final Pattern LINE = Pattern.compile(
        "((?:int )?(\\w+) = )?(x\\.(\\w+)\\([^()]*\\));\\s+// (true|false|NONE|WILD|TWICE|-?\\d+)(?:: .+)?");
    private static final Pattern CONSTANT = Pattern.compile("`PageSlabs\\.(\\w+)` \\((-\\d+)\\)");
    private static final String PROGRAM = "ReadmeProgram";

    private static final Check check = new Check();

    public static void main(String[] args) throws Exception {
        check.in("README.md");
        List<String> readme = Files.readAllLines(Path.of("README.md"));
        constants(String.join("\n", readme));
        List<Matcher> calls = calls(javaLines(readme));
        eachMethodIsShown(calls);
        check.yes("it makes at most 512 calls", calls.size() <= Run.MOST_CALLS);
        List<?> answers = answers(program(calls));
        check.due("calls that were answered", answers.size(), calls.size());
        for (int i = 0; i < Math.min(answers.size(), calls.size()); i++) {
            Matcher call = calls.get(i);
            check.yes(call.group() + " -- answers " + answers.get(i), meaning(call.group(5)).equals(answers.get(i)));
        }
        check.end();
    }

    private static void constants(String readme) {
        Matcher m = CONSTANT.matcher(readme);
        Set<String> told = new TreeSet<>();
        while (m.find()) {
            told.add(m.group(1) + " " + m.group(2));
        }
        Set<String> due = Set.of("NONE " + PageSlabs.NONE, "WILD " + PageSlabs.WILD, "TWICE " + PageSlabs.TWICE);
        check.yes("the constants that it tells, " + told, told.equals(due));
    }

    private static List<String> javaLines(List<String> readme) {
        List<String> lines = new ArrayList<>();
        boolean inside = false;
        for (String line : readme) {
            if (line.startsWith("```")) {
                inside = line.equals("```java");
            } else if (inside && !line.isBlank()) {
                lines.add(line);
            }
        }
        return lines;
    }

    /** All lines but the first must be calls whose answer is told. */
    private static List<Matcher> calls(List<String> lines) {
        check.yes("it begins with " + FIRST, !lines.isEmpty() && lines.get(0).equals(FIRST));
        List<Matcher> calls = new ArrayList<>();
        for (int i = 1; i < lines.size(); i++) {
            Matcher m = LINE.matcher(lines.get(i));
            boolean told = m.matches();
            check.yes("an answer is told in the line " + lines.get(i), told);
            if (told) {
                calls.add(m);
            }
        }
        return calls;
    }

    private static void eachMethodIsShown(List<Matcher> calls) {
        Set<String> shown = new TreeSet<>();
        for (Matcher call : calls) {
            shown.add(call.group(4));
        }
        for (Method m : PageSlabs.class.getDeclaredMethods()) {
            if (Modifier.isPublic(m.getModifiers())) {
                check.yes(m.getName() + "() is shown", shown.contains(m.getName()));
            }
        }
    }

    private static Object meaning(String told) {
        return switch (told) {
            case "true", "false" -> Boolean.valueOf(told);
            case "NONE" -> PageSlabs.NONE;
            case "WILD" -> PageSlabs.WILD;
            case "TWICE" -> PageSlabs.TWICE;
            default -> Integer.valueOf(told);
        };
    }

    private static List<String> program(List<Matcher> calls) {
        List<String> program = new ArrayList<>();
        program.add("public final class " + PROGRAM + " {");
        program.add("public static java.util.List<Object> run() {");
        program.add("java.util.List<Object> answers = new java.util.ArrayList<>();");
        program.add(FIRST);
        for (Matcher call : calls) {
            boolean sets = call.group(1) != null;
            program.add(sets ? call.group(1) + call.group(3) + ";" : "");
            program.add("answers.add(" + (sets ? call.group(2) : call.group(3)) + ");");
        }
        program.add("return answers; } }");
        return program;
    }

    /** What the program's calls answer; nothing if it does not compile. */
    private static List<?> answers(List<String> program) throws Exception {
        Path directory = Files.createTempDirectory("readme");
        try {
            Path file = Files.write(directory.resolve(PROGRAM + ".java"), program);
            return compile(file, directory) ? run(directory) : List.of();
        } finally {
            remove(directory);
        }
    }

    private static boolean compile(Path file, Path directory) {
        JavaCompiler javac = ToolProvider.getSystemJavaCompiler();
        String classes = System.getProperty("java.class.path");
        return javac != null && javac.run(null, null, null, "-cp", classes, "-d", directory.toString(), file.toString()) == 0;
    }

    private static List<?> run(Path directory) throws Exception {
        URL[] where = {directory.toUri().toURL()};
        try (URLClassLoader loader = new URLClassLoader(where, ReadmeTest.class.getClassLoader())) {
            return (List<?>) loader.loadClass(PROGRAM).getMethod("run").invoke(null);
        }
    }

    private static void remove(Path directory) throws IOException {
        try (var files = Files.list(directory)) {
            for (Path file : files.toList()) {
                Files.delete(file);
            }
        }
        Files.delete(directory);
    }
}
