import java.io.IOException;
import java.lang.reflect.Field;
import java.lang.reflect.Method;
import java.lang.reflect.Modifier;
import java.nio.file.Files;
import java.nio.file.Path;
import java.util.ArrayList;
import java.util.Arrays;
import java.util.HashSet;
import java.util.List;
import java.util.Map;
import java.util.Set;
import java.util.TreeMap;
import java.util.regex.Matcher;
import java.util.regex.Pattern;

/** Those rules of LANGUAGE.md that can be seen in the class and in its text, by their numbers. */
public final class LanguageTest {
    private static final Path SOURCE = Path.of("src/main/java/InkSwaths.java");
    /** Rules 2, 4, 6, 9 and 13; the last ones are loops whose end is not seen. */
    private static final List<String> FORBIDDEN = List.of("\\bthrow\\b", "\\bthrows\\b", "\\btry\\b", "\\bcatch\\b",
        "\\bsynchronized\\b", "\\bassert\\b", "->", "::", "\\bvar\\b", "\\bpackage\\b", "\\bObject\\b", "\\bprotected\\b",
        "\\bimport static\\b", "\\bnull\\b", "\\binstanceof\\b", "\\bequals\\b", "\\bhashCode\\b", "\\btoString\\b",
        "\\bnew \\w+\\([^)]*\\) \\{", "\\bwhile \\(true\\)", "\\bfor \\(;", "\\bfor \\([^;)]*;\\s*;", "\\bdo \\{");
    private static final Set<String> LIBRARY = Set.of("Arrays.fill", "Math.min", "Math.max", "Integer.bitCount",
        "System.arraycopy");
    private static final Set<String> STATIC_TYPES = Set.of("int", "long", "boolean", "char", "[I");
    private static final Pattern HEADING = Pattern.compile("^( {4}| {8})(?:public|private) (?:static )?(?:\\w+(?:\\[\\])? )?(\\w+)\\([^)]*\\) \\{$");
    private static final int DEEPEST = 8, LONGEST = 60, MOST_FIELDS = 20, MOST_CLASSES = 12, MOST_PARAMETERS = 7;

    public static void main(String[] args) throws IOException {
        String whole = Files.readString(SOURCE);
        String code = whole.replaceAll("(?s)/\\*.*?\\*/", "").replaceAll("//[^\n]*", "");
        Due.is("3: signs are plain", whole.chars().allMatch(c -> c < 128) ? 1 : 0, 1);
        words(code);
        library(code);
        rowsAreMadeByFieldsAlone(code);
        fields();
        Map<String, List<String>> bodies = bodies(code);
        lengths(bodies);
        depths(bodies);
        Due.end();
    }

    private static void words(String code) {
        for (String word : FORBIDDEN) {
            Due.is("uses of " + word, code.split(word, -1).length - 1, 0);
        }
    }

    private static void library(String code) {
        Matcher used = Pattern.compile("\\b([A-Z][a-z]\\w*\\.[a-z]\\w*)\\(").matcher(code);
        while (used.find()) {
            Due.is("4: " + used.group(1), LIBRARY.contains(used.group(1)) ? 1 : 0, 1);
        }
        for (String row : code.split("\n")) {
            if (row.startsWith("import")) {
                Due.is("4: " + row, row.equals("import java.util.Arrays;") ? 1 : 0, 1);
            }
        }
    }

    /** The room is one for all calls: rows are made with the object and used again. */
    private static void rowsAreMadeByFieldsAlone(String code) {
        for (String row : code.split("\n")) {
            if (row.contains("new ") || row.contains(".clone()")) {
                Due.is("12: made by a field: " + row, row.trim().startsWith("private final ") ? 1 : 0, 1);
            }
        }
    }

    private static List<Class<?>> classes() {
        List<Class<?>> all = new ArrayList<>(Arrays.asList(InkSwaths.class.getDeclaredClasses()));
        all.add(InkSwaths.class);
        return all;
    }

    private static void fields() {
        Due.is("11: classes", classes().size() <= MOST_CLASSES ? 1 : 0, 1);
        for (Class<?> c : classes()) {
            int many = 0;
            for (Field f : c.getDeclaredFields()) {
                if (Modifier.isStatic(f.getModifiers())) {
                    Due.is("5: " + f + " is final", Modifier.isFinal(f.getModifiers()) ? 1 : 0, 1);
                    Due.is("5: " + f, STATIC_TYPES.contains(f.getType().getName()) ? 1 : 0, 1);
                } else {
                    many++;
                }
            }
            Due.is("11: " + many + " fields of " + c, many <= MOST_FIELDS ? 1 : 0, 1);
            for (Method m : c.getDeclaredMethods()) {
                Due.is("11: parameters of " + m, m.getParameterCount() <= MOST_PARAMETERS ? 1 : 0, 1);
            }
        }
    }

    /** Of each method its rows, by its name: no two have the same one. A constructor bears its class's name. */
    private static Map<String, List<String>> bodies(String code) {
        Map<String, List<String>> bodies = new TreeMap<>();
        List<String> rows = null;
        String end = "";
        for (String row : code.split("\n")) {
            Matcher heading = HEADING.matcher(row);
            if (heading.matches()) {
                rows = new ArrayList<>();
                end = heading.group(1) + "}";
                Due.is("one method " + heading.group(2), bodies.put(heading.group(2), rows) == null ? 1 : 0, 1);
            } else if (rows != null && row.equals(end)) {
                rows = null;
            } else if (rows != null) {
                rows.add(row);
            }
        }
        int declared = 0;
        for (Class<?> c : classes()) {
            declared += (int) Arrays.stream(c.getDeclaredMethods()).filter(m -> !m.isSynthetic()).count();
        }
        // InkSwaths and Plan have constructors that are written out.
        Due.is("methods found", bodies.size(), declared + 2);
        return bodies;
    }

    private static void lengths(Map<String, List<String>> bodies) {
        for (Map.Entry<String, List<String>> body : bodies.entrySet()) {
            int rows = body.getValue().size() + 2;
            Due.is("11: " + body.getKey() + " has " + rows + " rows", rows <= LONGEST ? 1 : 0, 1);
        }
    }

    private static void depths(Map<String, List<String>> bodies) {
        Map<String, Set<String>> calls = new TreeMap<>();
        for (Map.Entry<String, List<String>> body : bodies.entrySet()) {
            Set<String> called = new HashSet<>();
            Matcher names = Pattern.compile("\\b(\\w+)\\(").matcher(String.join("\n", body.getValue()));
            while (names.find()) {
                if (bodies.containsKey(names.group(1)) || LIBRARY.stream().anyMatch(l -> l.endsWith("." + names.group(1)))) {
                    called.add(names.group(1));
                }
            }
            calls.put(body.getKey(), called);
        }
        for (String name : calls.keySet()) {
            int depth = depth(name, calls, 1);
            Due.is("8, 11: calls by " + name + " go " + depth + " deep", depth <= DEEPEST ? 1 : 0, 1);
        }
    }

    /** How many calls stand open at once, the library's, too; a method that called itself would go beyond all bounds. */
    private static int depth(String name, Map<String, Set<String>> calls, int level) {
        int deepest = 1;
        if (level > 2 * DEEPEST) {
            return deepest;
        }
        for (String called : calls.getOrDefault(name, Set.of())) {
            deepest = Math.max(deepest, 1 + depth(called, calls, level + 1));
        }
        return deepest;
    }
}
