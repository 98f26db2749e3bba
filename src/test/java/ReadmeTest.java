import java.io.IOException;
import java.lang.reflect.Method;
import java.lang.reflect.Modifier;
import java.net.URL;
import java.net.URLClassLoader;
import java.nio.file.DirectoryStream;
import java.nio.file.Files;
import java.nio.file.Path;
import java.util.ArrayList;
import java.util.Comparator;
import java.util.List;
import java.util.regex.Matcher;
import java.util.regex.Pattern;
import java.util.stream.Stream;
import javax.tools.ToolProvider;

/** That README.md holds as it stands: its example, its table of calls, its list of tests and its commands. */
public final class ReadmeTest {
    /** A line of the example: perhaps a name for the answer, the call, and what it answers. */
    private static final Pattern ANSWERED =
            Pattern.compile("(?:(?:int|long) (\\w+) = )?(bench\\.\\w+\\(.*\\));\\s*// answers (-?\\d+)(?::.*)?");
    /** A row of the table: a call's name, its arguments, what it answers, what it throws. */
    private static final Pattern ROW = Pattern.compile("\\| `(\\w+)\\((.*?)\\)` \\| ([^|]+) \\|([^|]*)\\|");

    public static void main(String[] args) throws Exception {
        Path root = Path.of(System.getProperty("rescue.root", ".")).toAbsolutePath().normalize();
        String readme = Files.readString(root.resolve("README.md"));
        Path out = Files.createTempDirectory("readme");
        try {
            example(block(readme, "java"), out);
        } finally {
            removeAll(out);
        }
        tableOfCalls(readme);
        listOfTests(readme, root);
        commands(block(readme, "sh"), root);
        Due.end();
    }

    /** The only block of its kind. */
    private static String block(String readme, String kind) {
        String[] parts = readme.split("```" + kind + "\n");
        Due.same("blocks of " + kind, parts.length - 1, 1);
        return parts[1].substring(0, parts[1].indexOf("```"));
    }

    private static void removeAll(Path folder) throws IOException {
        try (Stream<Path> all = Files.walk(folder)) {
            for (Path path : all.sorted(Comparator.reverseOrder()).toList()) {
                Files.delete(path);
            }
        }
    }

    private static void example(String code, Path out) throws Exception {
        StringBuilder body = new StringBuilder();
        List<String> lines = new ArrayList<>();
        List<Long> due = new ArrayList<>();
        for (String line : code.split("\n")) {
            Matcher answered = ANSWERED.matcher(line);
            if (answered.matches()) {
                boolean named = answered.group(1) != null;
                body.append(named ? line + "\n" : "");
                body.append("answers.add((long) ").append(answered.group(named ? 1 : 2)).append(");\n");
                lines.add(answered.group(2));
                due.add(Long.parseLong(answered.group(3)));
            } else {
                Due.holds("only a new bench answers nothing: " + line, !line.contains("bench."));
                body.append(line).append('\n');
            }
        }
        List<?> answers = answersOf(body.toString(), out);
        Due.same("answers", answers.size(), due.size());
        for (int i = 0; i < due.size() && i < answers.size(); i++) {
            Due.same("in the example " + lines.get(i), (Long) answers.get(i), due.get(i));
        }
    }

    private static List<?> answersOf(String body, Path out) throws Exception {
        Path source = out.resolve("Example.java");
        Files.writeString(source, "public final class Example {\n"
                + "public static java.util.List<Long> answers() {\n"
                + "java.util.List<Long> answers = new java.util.ArrayList<>();\n"
                + body + "return answers;\n}\n}\n");
        int failed = ToolProvider.getSystemJavaCompiler().run(null, null, null, "-cp",
                System.getProperty("java.class.path"), "-d", out.toString(), source.toString());
        Due.same("compiling the example", failed, 0);
        if (failed != 0) {
            return List.of();
        }
        try (URLClassLoader loader = new URLClassLoader(new URL[] {out.toUri().toURL()})) {
            return (List<?>) loader.loadClass("Example").getMethod("answers").invoke(null);
        }
    }

    private static void tableOfCalls(String readme) {
        List<String> told = new ArrayList<>();
        Matcher rows = ROW.matcher(readme);
        while (rows.find()) {
            int arguments = rows.group(2).isEmpty() ? 0 : rows.group(2).split(", ").length;
            told.add(rows.group(1) + " " + arguments + " " + rows.group(4).replace("`", "").trim());
        }
        int calls = 0;
        for (Method method : RescueBench.class.getDeclaredMethods()) {
            if (Modifier.isPublic(method.getModifiers())) {
                calls++;
                List<String> thrown = new ArrayList<>();
                for (Class<?> type : method.getExceptionTypes()) {
                    thrown.add(type.getSimpleName());
                }
                String due = method.getName() + " " + method.getParameterCount() + " " + String.join(", ", thrown);
                Due.holds("that the table has: " + due, told.contains(due));
            }
        }
        Due.same("rows of the table", told.size(), calls);
    }

    private static void listOfTests(String readme, Path root) throws IOException {
        try (DirectoryStream<Path> sources = Files.newDirectoryStream(root.resolve("src/test/java"))) {
            for (Path source : sources) {
                String name = source.getFileName().toString().replace(".java", "");
                Due.holds("that README.md tells of " + name, readme.contains("`" + name + "`"));
            }
        }
        Matcher paths = Pattern.compile("`((?:\\.\\./shared|src|\\.ci|NOTES)[\\w./]*)`").matcher(readme);
        while (paths.find()) {
            Due.holds("that there is " + paths.group(1), Files.exists(root.resolve(paths.group(1))));
        }
        Due.holds("that .ci/run can be run", Files.isExecutable(root.resolve(".ci/run")));
    }

    private static void commands(String block, Path root) throws Exception {
        Process shell = new ProcessBuilder("bash", "-e", "-u", "-c", block).directory(root.toFile())
                .redirectErrorStream(true).start();
        shell.getOutputStream().close();
        String printed = new String(shell.getInputStream().readAllBytes());
        int code = shell.waitFor();
        Due.same("exit code of the commands, which print " + printed.trim(), code, 0);
        Due.holds("that the project's test was run", printed.contains("answers as due, 0 not"));
        Due.holds("that the shared one was run", printed.contains("all answers are as due"));
    }
}
