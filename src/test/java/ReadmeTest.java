import java.io.File;
import java.lang.reflect.Method;
import java.lang.reflect.Modifier;
import java.net.URL;
import java.net.URLClassLoader;
import java.nio.charset.StandardCharsets;
import java.nio.file.Files;
import java.nio.file.Path;
import java.util.ArrayList;
import java.util.List;
import java.util.Set;
import java.util.TreeSet;
import java.util.regex.Matcher;
import java.util.regex.Pattern;
import javax.tools.JavaCompiler;
import javax.tools.ToolProvider;

/**
 * The examples of README.md: its Java blocks, one behind the other, are made a program in which each call that tells
 * an answer or an exception is checked, and that program is compiled and run.
 */
public final class ReadmeTest {
    private static final String EXAMPLES = "ReadmeExamples";
    private static final Pattern CALL = Pattern.compile("\\bcode\\.(\\w+)\\(");
    /** A type and a name, if the answer is kept; the call; which of both is told, and what. */
    private static final Pattern TOLD =
        Pattern.compile("^(?:(\\w+) (\\w+) = )?(.*); *// (answers|throws) ([\\w.-]+)(?:: .*)?$");

    private static int wrong = 0;

    private static void fail(String what) {
        wrong++;
        System.out.println("README.md: " + what);
    }

    /** For the examples' program. */
    public static void due(String call, String got, String due) {
        if (!got.equals(due)) {
            fail(call + " answered " + got + ", it says " + due);
        }
    }

    private static List<String> exampleLines() throws Exception {
        List<String> lines = new ArrayList<>();
        boolean isInside = false;
        for (String line : Files.readAllLines(Path.of("README.md"), StandardCharsets.UTF_8)) {
            if (line.startsWith("```")) {
                isInside = line.equals("```java");
            } else if (isInside && !line.isBlank()) {
                lines.add(line.strip());
            }
        }
        return lines;
    }

    /** The names of the face's calls; of all of them, or of those that answer. */
    private static Set<String> calls(boolean areAll) {
        Set<String> names = new TreeSet<>();
        for (Method method : EdgeCode.class.getDeclaredMethods()) {
            if (Modifier.isPublic(method.getModifiers()) && (areAll || method.getReturnType() != void.class)) {
                names.add(method.getName());
            }
        }
        return names;
    }

    private static String quoted(String text) {
        return "\"" + text.replace("\\", "\\\\").replace("\"", "\\\"") + "\"";
    }

    /** The line of a call that tells what is due, with the check of it. */
    private static String checked(Matcher told) {
        String call = told.group(3);
        String due = told.group(5);
        String check = "ReadmeTest.due(" + quoted(call) + ", ";
        if (told.group(4).equals("throws")) {
            return "try { " + call + "; " + check + "\"nothing thrown\", " + quoted(due) + "); }"
                + " catch (RuntimeException e) { " + check + "e.getClass().getSimpleName(), " + quoted(due) + "); }";
        }
        if (told.group(2) == null) {
            return check + "String.valueOf(" + call + "), String.valueOf(" + due + "));";
        }
        return told.group(1) + " " + told.group(2) + " = " + call + "; "
            + check + "String.valueOf(" + told.group(2) + "), String.valueOf(" + due + "));";
    }

    private static String program(List<String> lines) {
        StringBuilder text = new StringBuilder("public final class " + EXAMPLES + " {\n public static void run() {\n");
        Set<String> answering = calls(false);
        Set<String> shown = new TreeSet<>();
        for (String line : lines) {
            Matcher call = CALL.matcher(line);
            Matcher told = TOLD.matcher(line);
            boolean isTold = told.matches();
            if (call.find()) {
                shown.add(call.group(1));
                if (!isTold && answering.contains(call.group(1))) {
                    fail("it tells no answer of " + line);
                }
            }
            if (!isTold && line.matches(".*// (answers|throws)\\b.*")) {
                fail("no call and what is due can be read of " + line);
            }
            text.append(isTold ? checked(told) : line).append('\n');
        }
        if (!shown.equals(calls(true))) {
            fail("it shows " + shown + " of " + calls(true));
        }
        return text.append(" }\n}\n").toString();
    }

    private static void compileAndRun(String program, Path directory) throws Exception {
        JavaCompiler compiler = ToolProvider.getSystemJavaCompiler();
        if (compiler == null) {
            fail("no compiler for its examples");
            return;
        }
        Path source = directory.resolve(EXAMPLES + ".java");
        Files.write(source, program.getBytes(StandardCharsets.UTF_8));
        String classPath = System.getProperty("java.class.path");
        int failed = compiler.run(null, null, null, "-encoding", "UTF-8", "-implicit:none", "-proc:none",
            "-cp", classPath, "-d", directory.toString(), source.toString());
        if (failed != 0) {
            fail("its examples can't be compiled");
            return;
        }
        URL[] places = {directory.toUri().toURL()};
        try (URLClassLoader loader = new URLClassLoader(places, ReadmeTest.class.getClassLoader())) {
            loader.loadClass(EXAMPLES).getMethod("run").invoke(null);
        }
    }

    public static void main(String[] args) throws Exception {
        List<String> lines = exampleLines();
        String program = program(lines);
        Path directory = Files.createTempDirectory("readme");
        try {
            compileAndRun(program, directory);
        } finally {
            File[] made = directory.toFile().listFiles();
            for (File file : made == null ? new File[0] : made) {
                Files.delete(file.toPath());
            }
            Files.delete(directory);
        }
        if (wrong != 0) {
            System.exit(1);
        }
    }
}
