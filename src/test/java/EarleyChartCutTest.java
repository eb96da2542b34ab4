import java.io.IOException;
import java.lang.reflect.InvocationTargetException;
import java.net.URL;
import java.net.URLClassLoader;
import java.nio.file.Files;
import java.nio.file.Path;
import java.util.Arrays;
import javax.tools.JavaCompiler;
import javax.tools.ToolProvider;

/**
 * Terms and promise 7: of a longer witness the first 8000 productions are the witness.
 *
 * <p>No grammar within the document's limits was found whose witness has more than 3700. So the
 * program's own text is compiled once more with a wider limit, that of the symbols of all right
 * sides, and with it there are witnesses of 7999, 8000, 8001 and more; what cuts them is untouched.
 */
public final class EarleyChartCutTest {
    private static final Path SOURCE = Path.of("src", "main", "java", "EarleyChart.java");

    /** 421 steps over nothing, three times as many for each token 100, and one for each 101. */
    private static final int[][] GRAMMAR = {
        {0, 1, 1, 1, 1}, {1, 2, 2, 2, 2}, {2, 3, 3, 3, 5}, {3, 4, 5, 5, 5}, {4, 5, 5, 5}, {5},
        {5, 100, 0, 0, 0}, {5, 101, 5},
    };

    private static int wrong = 0;

    private final Object chart;

    private EarleyChartCutTest(Class<?> program) throws ReflectiveOperationException {
        chart = program.getConstructor(int.class, int.class).newInstance(6, 6);
    }

    public static void main(String[] args) throws Exception {
        Path folder = Files.createTempDirectory("cut");
        try {
            Class<?> wide = compiled(folder.resolve("wide"), "MOST_RIGHT_SYMBOLS", 16, 32);
            Class<?> uncut = compiled(folder.resolve("uncut"), "MOST_RIGHT_SYMBOLS", 16, 32,
                    "LONGEST_WITNESS", 8000, 20000);
            checkCut(wide, uncut);
            checkAfterCut(wide);
        } finally {
            delete(folder);
        }
        System.out.println(wrong == 0 ? "the cut is as due" : wrong + " answers are wrong");
        if (wrong != 0) {
            System.exit(1);
        }
    }

    /** The program with other constants: rows of a name, the value it has, and the one to have. */
    private static Class<?> compiled(Path folder, Object... changes) throws Exception {
        String text = Files.readString(SOURCE);
        for (int i = 0; i < changes.length; i += 3) {
            String before = changes[i] + " = " + changes[i + 1] + ";";
            if (text.split(before, -1).length != 2) {
                throw new IllegalStateException("not just once in the program: " + before);
            }
            text = text.replace(before, changes[i] + " = " + changes[i + 2] + ";");
        }
        Files.createDirectories(folder);
        Path file = folder.resolve("EarleyChart.java");
        Files.writeString(file, text);
        JavaCompiler compiler = ToolProvider.getSystemJavaCompiler();
        int code = compiler.run(null, null, null, "--release", "17", "-d", folder.toString(), file.toString());
        if (code != 0) {
            throw new IllegalStateException("the changed program does not compile");
        }
        // With this parent the class that stands on the test's own path is not seen.
        URL[] places = {folder.toUri().toURL()};
        URLClassLoader loader = new URLClassLoader(places, ClassLoader.getPlatformClassLoader());
        return loader.loadClass("EarleyChart");
    }

    private static void delete(Path path) throws IOException {
        if (Files.isDirectory(path)) {
            try (var inside = Files.list(path)) {
                for (Path one : inside.toList()) {
                    delete(one);
                }
            }
        }
        Files.delete(path);
    }

    private static void checkCut(Class<?> wide, Class<?> uncut) throws Exception {
        int[][] counts = {{0, 0}, {0, 8}, {5, 3}, {6, 0}, {6, 1}, {6, 2}, {7, 0}, {7, 1}, {8, 0}};
        for (int[] count : counts) {
            int steps = 421 * (1 + 3 * count[0]) + count[1];
            int cut = Math.min(steps, 8000);
            String what = steps + " steps: ";
            EarleyChartCutTest made = made(wide, count[0], count[1]);
            due(what + "steps", made.ask("steps", 0, 0, count[0] + count[1]), steps);
            due(what + "extract", made.ask("extract"), cut);
            due(what + "witCount", made.ask("witCount"), cut);
            if (steps <= 8001) {
                // A whole one ends with the empty production; of 8001 just that one is missing.
                due(what + "the last", made.ask("wit", cut - 1), steps == 8001 ? 7 : 5);
            }
            due(what + "behind the last", made.ask("wit", cut), "java.lang.IndexOutOfBoundsException");
            due(what + "row", witness(wide, count, cut), witness(uncut, count, cut));
        }
    }

    /** A witness that was cut leaves nothing behind that a later one would show. */
    private static void checkAfterCut(Class<?> wide) throws Exception {
        EarleyChartCutTest used = made(wide, 8, 0);
        due("cut", used.ask("extract"), 8000);
        due("cut again", used.ask("extract"), 8000);
        due("clear", used.ask("clear"), 8);
        due("witCount", used.ask("witCount"), 0);
        due("feed", used.ask("feed", 101), made(wide, 0, 0).ask("feed", 101));
        due("a short one", used.ask("extract"), 422);
        EarleyChartCutTest unused = made(wide, 0, 1);
        due("a short one, unused", unused.ask("extract"), 422);
        for (int i = 0; i <= 422; i++) {
            due("wit(" + i + ") of a short one", used.ask("wit", i), unused.ask("wit", i));
        }
    }

    private static EarleyChartCutTest made(Class<?> program, int dear, int cheap) throws Exception {
        EarleyChartCutTest made = new EarleyChartCutTest(program);
        for (int[] production : GRAMMAR) {
            made.ask("addProd", production[0]);
            for (int i = 1; i < production.length; i++) {
                made.ask("addRhs", production[i]);
            }
        }
        for (int i = 0; i < dear + cheap; i++) {
            made.ask("feed", i < dear ? 100 : 101);
        }
        return made;
    }

    /** The first productions of the witness, asked of many charts: one has no more than 512 calls. */
    private static String witness(Class<?> program, int[] count, int length) throws Exception {
        StringBuilder row = new StringBuilder();
        EarleyChartCutTest made = null;
        for (int i = 0; i < length; i++) {
            if (i % 400 == 0) {
                made = made(program, count[0], count[1]);
                made.ask("extract");
            }
            row.append(made.ask("wit", i)).append(' ');
        }
        return row.toString();
    }

    /** The answer, or the name of what was thrown. */
    private Object ask(String name, Integer... given) throws ReflectiveOperationException {
        Class<?>[] types = new Class<?>[given.length];
        Arrays.fill(types, int.class);
        try {
            return chart.getClass().getMethod(name, types).invoke(chart, (Object[]) given);
        } catch (InvocationTargetException e) {
            return e.getCause().getClass().getName();
        }
    }

    private static void due(String what, Object got, Object want) {
        if (!want.equals(got)) {
            wrong++;
            System.out.println("7, the first 8000 productions: " + what + " gave " + got + ", due is " + want);
        }
    }
}
