import java.lang.reflect.Method;
import java.nio.charset.StandardCharsets;
import java.nio.file.Files;
import java.nio.file.Path;
import java.util.ArrayList;
import java.util.Arrays;
import java.util.Comparator;
import java.util.List;

/**
 * Each sentence of the document that names a boundary case has a test of its own: a method of one of
 * the classes Bounds.., named after its promise. This runs them all, so that none can be forgotten,
 * and looks whether each promise has some, and whether what they quote stands in the document.
 */
public final class BoundsTest {
    private static final List<String> QUOTES = new ArrayList<>();

    public static void main(String[] args) throws Exception {
        Class<?>[] classes = {BoundsOfTexts.class, BoundsOfFaults.class, BoundsOfActs.class,
            BoundsOfRules.class, BoundsOfAhead.class, BoundsOfHonours.class, BoundsOfKept.class};
        int[] tests = new int[36];
        for (Class<?> each : classes) {
            runAll(each, tests);
        }
        Checks.head("the tests");
        for (int promise = 1; promise <= 35; promise++) {
            Checks.due("promise " + promise + " has tests of its bounds", tests[promise] > 0 ? 1 : 0, 1);
        }
        lookUpQuotes();
        Checks.finish("BoundsTest of " + Arrays.stream(tests).sum() + " sentences");
    }

    /** The sentence that the test is of, as the document has it. */
    static void says(String words) {
        QUOTES.add(words);
    }

    private static void runAll(Class<?> each, int[] tests) throws Exception {
        Method[] methods = each.getDeclaredMethods();
        Arrays.sort(methods, Comparator.comparing(Method::getName));
        for (Method method : methods) {
            String name = method.getName();
            if (name.startsWith("promise")) {
                tests[Integer.parseInt(name.substring(7, 9))]++;
                int asked = Checks.askedSoFar();
                int quoted = QUOTES.size();
                Checks.head(name);
                method.invoke(null);
                Checks.due("it asks something", Checks.askedSoFar() > asked ? 1 : 0, 1);
                Checks.due("it quotes the document", QUOTES.size() > quoted ? 1 : 0, 1);
            }
        }
    }

    private static void lookUpQuotes() throws Exception {
        String path = System.getProperty("document", "../shared/DOC.md");
        if (!Files.isReadable(Path.of(path))) {
            System.out.println("no document at " + path + ": quotes are not looked up");
            return;
        }
        String document = Files.readString(Path.of(path), StandardCharsets.UTF_8);
        for (String quote : QUOTES) {
            Checks.due("the document says '" + quote + "'", document.contains(quote) ? 1 : 0, 1);
        }
    }
}
