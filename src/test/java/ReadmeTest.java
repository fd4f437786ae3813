import java.lang.reflect.Method;
import java.net.URL;
import java.net.URLClassLoader;
import java.nio.charset.StandardCharsets;
import java.nio.file.Files;
import java.nio.file.Path;
import java.util.Arrays;
import java.util.Set;
import java.util.TreeSet;
import java.util.regex.Matcher;
import java.util.regex.Pattern;

/** What README.md shows is so: its code is compiled and run, and its table is asked row by row. */
public final class ReadmeTest {
    private static final Pattern BLOCK = Pattern.compile("(?s)```java\n(.*?)```");
    private static final Pattern CALL = Pattern.compile("(?m)^(x\\.\\w+\\([^;]*\\)); // (-?\\d+)(:.*)?$");
    private static final Pattern ROW = Pattern.compile("(?m)^\\| `(\\w+)\\(([^)]*)\\)` \\|.*\\| ([^|]+) \\|$");
    /** No number of the document, so that each call with it is one that can't be. */
    private static final int NO_NUMBER = 7777;

    public static void main(String[] args) throws Exception {
        String page = Files.readString(Path.of(System.getProperty("readme", "README.md")),
                StandardCharsets.UTF_8);
        runCode(page);
        askTable(page);
        Checks.finish("ReadmeTest");
    }

    private static void runCode(String page) throws Exception {
        Matcher blocks = BLOCK.matcher(page);
        StringBuilder helpers = new StringBuilder();
        StringBuilder shown = new StringBuilder();
        while (blocks.find()) {
            (blocks.group(1).startsWith("static") ? helpers : shown).append(blocks.group(1));
        }
        for (String line : shown.toString().split("\n")) {
            boolean isCall = line.startsWith("x.");
            Checks.due("an answer stands behind: " + line, !isCall || CALL.matcher(line).matches() ? 1 : 0, 1);
        }
        String checked = CALL.matcher(shown).replaceAll(m -> Matcher.quoteReplacement("due(\"" + m.group(1)
                + "\", " + m.group(1) + ", " + m.group(2) + ");"));
        Checks.due("the page shows calls", checked.equals(shown.toString()) ? 0 : 1, 1);
        runClass("public final class ReadmeCode {\n" + helpers
                + "static void due(String call, int got, int want) {\n"
                + "if (got != want) { throw new IllegalStateException(call + \" answered \" + got"
                + " + \", README.md shows \" + want); }\n}\n"
                + "public static void main(String[] args) {\n" + checked + "}\n}\n");
    }

    private static void runClass(String source) throws Exception {
        Path work = Files.createTempDirectory("readme");
        Path file = work.resolve("ReadmeCode.java");
        Files.writeString(file, source);
        int failed = new ProcessBuilder("javac", "-cp", System.getProperty("java.class.path"),
                "-d", work.toString(), file.toString()).inheritIO().start().waitFor();
        Checks.due("the page's code compiles", failed, 0);
        if (failed == 0) {
            try (URLClassLoader loader = new URLClassLoader(new URL[] {work.toUri().toURL()})) {
                loader.loadClass("ReadmeCode").getMethod("main", String[].class)
                        .invoke(null, (Object) new String[0]);
            } catch (java.lang.reflect.InvocationTargetException e) {
                Checks.dueText("the page's code", String.valueOf(e.getCause().getMessage()), "as shown");
            }
        }
        Files.deleteIfExists(work.resolve("ReadmeCode.class"));
        Files.deleteIfExists(file);
        Files.deleteIfExists(work);
    }

    private static void askTable(String page) throws Exception {
        Set<String> told = new TreeSet<>();
        Matcher rows = ROW.matcher(page);
        while (rows.find()) {
            String name = rows.group(1);
            told.add(name);
            int takes = rows.group(2).isEmpty() ? 0 : rows.group(2).split(",").length;
            Method method = named(name);
            Checks.due(name + " takes", method.getParameterCount(), takes);
            // where more than a number stands, what can't be depends on more than the arguments
            if (rows.group(3).matches("-\\d")) {
                Object[] numbers = new Object[takes];
                Arrays.fill(numbers, NO_NUMBER);
                int want = Integer.parseInt(rows.group(3));
                Checks.due(name + " of a new object", (Integer) method.invoke(new SpoonCourt(), numbers), want);
                Object[] below = new Object[takes];
                Arrays.fill(below, -NO_NUMBER);
                SpoonCourt court = Checks.at("court 3 10;thing 5;person 0 0");
                if (takes > 0) {
                    Checks.due(name + " above", (Integer) method.invoke(court, numbers), want);
                    Checks.due(name + " below", (Integer) method.invoke(court, below), want);
                }
            }
        }
        Checks.due("calls of the table " + told, told.size(), 34);
    }

    private static Method named(String name) {
        return Arrays.stream(SpoonCourt.class.getMethods()).filter(m -> m.getName().equals(name))
                .findFirst().orElseThrow();
    }
}
