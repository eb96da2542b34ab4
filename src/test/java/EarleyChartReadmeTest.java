import java.lang.reflect.Method;
import java.lang.reflect.Modifier;
import java.net.URL;
import java.net.URLClassLoader;
import java.nio.file.Files;
import java.nio.file.Path;
import java.util.regex.Matcher;
import java.util.regex.Pattern;
import javax.tools.JavaCompiler;
import javax.tools.ToolProvider;

/** README.md tells each method of the face, and the answers in its example are the true ones. */
public final class EarleyChartReadmeTest {
    private static final Path README = Path.of("README.md");
    private static final Pattern EXAMPLE = Pattern.compile("```java\n(.*?)```", Pattern.DOTALL);
    /** A call and, behind it, the answer with which its comment begins. */
    private static final Pattern ASKED = Pattern.compile("(chart\\.(\\w+)\\(.*\\)); *// (-?\\d+|true|false)\\b.*");

    private static int wrong = 0;

    public static void main(String[] args) throws Exception {
        String readme = Files.readString(README);
        Matcher example = EXAMPLE.matcher(readme);
        if (!example.find()) {
            throw new IllegalStateException("README.md has no example");
        }
        checkMethods(readme, example.group(1));
        checkAnswers(example.group(1));
        due(readme.contains("    .ci/run\n"), "README.md tells how to run the tests");
        System.out.println(wrong == 0 ? "README.md is as due" : wrong + " faults of README.md");
        if (wrong != 0) {
            System.exit(1);
        }
    }

    /** Called by the program that is made of the example, too. */
    public static void due(boolean holds, String what) {
        if (!holds) {
            wrong++;
            System.out.println("not so: " + what);
        }
    }

    private static void checkMethods(String readme, String example) {
        for (Method method : EarleyChart.class.getDeclaredMethods()) {
            if (Modifier.isPublic(method.getModifiers())) {
                String name = method.getName();
                due(readme.contains("\n| `" + name + "("), "README.md has a row for " + name);
                due(example.contains("chart." + name + "("), "the example uses " + name);
                checkThrown(readme, method);
            }
        }
        due(readme.contains("\n| `new EarleyChart("), "README.md has a row for the constructor");
    }

    private static void checkThrown(String readme, Method method) {
        int begin = readme.indexOf("\n| `" + method.getName() + "(");
        int end = begin < 0 ? -1 : readme.indexOf('\n', begin + 1);
        String row = end < 0 ? "" : readme.substring(begin, end);
        for (Class<?> thrown : method.getExceptionTypes()) {
            due(row.contains("`" + thrown.getSimpleName() + "`"),
                    "the row for " + method.getName() + " tells of " + thrown.getSimpleName());
        }
    }

    private static void checkAnswers(String example) throws Exception {
        StringBuilder program = new StringBuilder("public final class Example {\npublic static void run() {\n");
        for (String line : example.split("\n")) {
            Matcher asked = ASKED.matcher(line);
            if (asked.matches()) {
                program.append("EarleyChartReadmeTest.due(").append(asked.group(1)).append(" == ")
                        .append(asked.group(3)).append(", \"").append(asked.group(1)).append(" answers ")
                        .append(asked.group(3)).append("\");\n");
            } else {
                due(!line.startsWith("chart."), "an answer stands behind " + line);
                program.append(line).append('\n');
            }
        }
        run(program.append("}\n}\n").toString());
    }

    private static void run(String program) throws Exception {
        Path folder = Files.createTempDirectory("readme");
        Path file = folder.resolve("Example.java");
        Path made = folder.resolve("Example.class");
        try {
            Files.writeString(file, program);
            JavaCompiler compiler = ToolProvider.getSystemJavaCompiler();
            int code = compiler.run(null, null, null, "-cp", System.getProperty("java.class.path"),
                    "-d", folder.toString(), file.toString());
            due(code == 0, "the example compiles");
            if (code == 0) {
                URL[] places = {folder.toUri().toURL()};
                try (URLClassLoader loader = new URLClassLoader(places)) {
                    loader.loadClass("Example").getMethod("run").invoke(null);
                }
            }
        } finally {
            Files.deleteIfExists(made);
            Files.deleteIfExists(file);
            Files.delete(folder);
        }
    }
}
