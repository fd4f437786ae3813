import java.io.IOException;
import java.lang.reflect.Constructor;
import java.lang.reflect.Field;
import java.lang.reflect.Method;
import java.lang.reflect.Modifier;
import java.nio.charset.StandardCharsets;
import java.nio.file.Files;
import java.nio.file.Path;
import java.util.Arrays;
import java.util.HashSet;
import java.util.Set;
import java.util.TreeSet;
import java.util.regex.Matcher;
import java.util.regex.Pattern;

/** The rules of LANGUAGE.md that a look at the text and the classes can tell. */
public final class LanguageTest {
    private static final String[] FACE = {"feed5", "end1", "court0", "rule0", "force1", "thing2", "usual1",
        "person2", "hour0", "deed2", "slight2", "tray1", "gloves1", "strip2", "undo0", "ahead3", "dubbed2",
        "least3", "spare3", "lay3", "held2", "place1", "stripped1", "gold2", "rests4", "ring1", "note2",
        "ruled1", "look1", "seed1", "years4", "count1", "image1", "back1"};

    public static void main(String[] args) throws IOException {
        String source = Files.readString(Path.of(System.getProperty("program",
                "src/main/java/SpoonCourt.java")), StandardCharsets.ISO_8859_1);
        String code = source.replaceAll("(?s)/\\*.*?\\*/", " ").replaceAll("//[^\n]*", " ")
                .replaceAll("\"(\\\\.|[^\"\\\\])*\"", "\"\"").replaceAll("'(\\\\.|[^'\\\\])'", "' '");
        face();
        classes();
        words(code);
        library(code);
        methodLengths(code);
        callDepths(code);
        Checks.finish("LanguageTest");
    }

    private static void face() {
        Class<SpoonCourt> c = SpoonCourt.class;
        Checks.due("public and final", Modifier.isPublic(c.getModifiers()) && Modifier.isFinal(c.getModifiers())
                ? 1 : 0, 1);
        Set<String> found = new TreeSet<>();
        for (Method m : c.getDeclaredMethods()) {
            if (!Modifier.isPrivate(m.getModifiers())) {
                found.add(m.getName() + m.getParameterCount());
                Checks.due(m.getName() + " answers an int", m.getReturnType() == int.class ? 1 : 0, 1);
            }
        }
        Checks.due("the methods of the face " + found, found.equals(new TreeSet<>(Arrays.asList(FACE))) ? 1 : 0, 1);
        for (Field f : c.getDeclaredFields()) {
            boolean isFace = f.getName().equals("NONE") && Modifier.isPublic(f.getModifiers());
            Checks.due("field " + f.getName(), isFace || Modifier.isPrivate(f.getModifiers()) ? 1 : 0, 1);
        }
        for (Constructor<?> k : c.getDeclaredConstructors()) {
            Checks.due("constructor", Modifier.isPublic(k.getModifiers()) ? k.getParameterCount() : 9, 0);
        }
    }

    private static void classes() {
        Class<?>[] inside = SpoonCourt.class.getDeclaredClasses();
        Checks.due("some twelve classes", inside.length + 1 <= 12 ? 1 : 0, 1);
        Set<String> faceNames = new HashSet<>();
        for (String name : FACE) {
            faceNames.add(name.replaceAll("[0-9]", ""));
        }
        for (Class<?> c : inside) {
            Checks.due(c.getName() + " is static", Modifier.isStatic(c.getModifiers()) ? 1 : 0, 1);
            int fields = 0;
            for (Field f : c.getDeclaredFields()) {
                fields += Modifier.isStatic(f.getModifiers()) ? 0 : 1;
                boolean isSafe = !Modifier.isStatic(f.getModifiers()) || Modifier.isFinal(f.getModifiers());
                Checks.due("static " + f.getName() + " is final", isSafe ? 1 : 0, 1);
            }
            Checks.due(c.getName() + " has few fields", fields <= 20 ? 1 : 0, 1);
            for (Method m : c.getDeclaredMethods()) {
                Checks.due(m.getName() + " is no name of the face", faceNames.contains(m.getName()) ? 1 : 0, 0);
                Checks.due(m.getName() + " takes seven at most", m.getParameterCount() <= 7 ? 1 : 0, 1);
            }
        }
    }

    private static void absent(String code, String pattern) {
        Matcher m = Pattern.compile(pattern).matcher(code);
        boolean found = m.find();
        Checks.due("absent: " + pattern + (found ? " but " + m.group() : ""), found ? 1 : 0, 0);
    }

    private static void words(String code) {
        absent(code, "\\b(throw|throws|try|catch|synchronized|assert|native|volatile|transient|protected)\\b");
        absent(code, "\\b(hashCode|toString|getClass|Object|Exception|Error|Thread|package)\\b");
        absent(code, "->|::|@");
        absent(code, "\"\"\\s*\\+|\\+\\s*\"\"");
        absent(code, "static\\s*\\{");
        absent(code, "while\\s*\\(\\s*true|for\\s*\\(\\s*;");
        absent(code, "[^\\x09\\x0a\\x20-\\x7e]");
    }

    private static void library(String code) {
        Matcher imports = Pattern.compile("import ([\\w.]+);").matcher(code);
        while (imports.find()) {
            Checks.due("import " + imports.group(1), imports.group(1).equals("java.util.Arrays") ? 1 : 0, 1);
        }
        Matcher calls = Pattern.compile("\\b(Math|Arrays|Integer|Long|System|String|List)\\.(\\w+)").matcher(code);
        Set<String> allowed = Set.of("Math.min", "Math.max", "Integer.bitCount", "System.arraycopy", "Arrays.fill",
                "Arrays.copyOf");
        while (calls.find()) {
            String call = calls.group(1) + "." + calls.group(2);
            Checks.due(call + " is in the library", allowed.contains(call) ? 1 : 0, 1);
        }
    }

    private static final Pattern METHOD = Pattern.compile(
            "(?m)^ +(?:public |private |static |final )*[\\w\\[\\]]+ (\\w+)\\([^)]*\\) \\{$");

    private static void methodLengths(String code) {
        Matcher m = METHOD.matcher(code);
        while (m.find()) {
            String body = bodyFrom(code, m.end() - 1);
            Checks.due(m.group(1) + " is short", body.split("\n").length <= 60 ? 1 : 0, 1);
        }
    }

    private static String bodyFrom(String code, int brace) {
        int depth = 0;
        for (int i = brace; i < code.length(); i++) {
            depth += code.charAt(i) == '{' ? 1 : code.charAt(i) == '}' ? -1 : 0;
            if (depth == 0) {
                return code.substring(brace, i + 1);
            }
        }
        return code.substring(brace);
    }

    /** By names alone, so that methods of one name count as one; recursion is not followed twice. */
    private static void callDepths(String code) {
        java.util.Map<String, Set<String>> calls = new java.util.HashMap<>();
        Matcher m = METHOD.matcher(code);
        while (m.find()) {
            Set<String> row = calls.computeIfAbsent(m.group(1), k -> new TreeSet<>());
            Matcher c = Pattern.compile("(\\w+)\\(").matcher(bodyFrom(code, m.end() - 1));
            while (c.find()) {
                row.add(c.group(1));
            }
        }
        for (String name : FACE) {
            String method = name.replaceAll("[0-9]", "");
            int deep = deepest(calls, method, new HashSet<>());
            Checks.due(method + " goes " + deep + " deep", deep <= 8 ? 1 : 0, 1);
        }
    }

    private static int deepest(java.util.Map<String, Set<String>> calls, String method, Set<String> open) {
        int most = 0;
        open.add(method);
        for (String next : calls.get(method)) {
            if (calls.containsKey(next) && !open.contains(next)) {
                most = Math.max(most, deepest(calls, next, open));
            }
        }
        open.remove(method);
        return most + 1;
    }
}
