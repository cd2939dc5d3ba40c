import java.io.IOException;
import java.lang.reflect.Field;
import java.lang.reflect.Modifier;
import java.nio.file.Files;
import java.nio.file.Path;
import java.util.ArrayList;
import java.util.HashMap;
import java.util.List;
import java.util.Map;
import java.util.TreeMap;
import java.util.TreeSet;
import java.util.regex.Matcher;
import java.util.regex.Pattern;

/** Who calls whom in the source: how deep calls go, which are recursion; the loops, the fields (LANGUAGE.md 3, 8, 9, 11). */
public final class CallsTest {
    private static final String OUTER = "ForeheadMarks";

    /** By "Class.method": the lines of each method, and whether it is private. */
    private static final Map<String, StringBuilder> BODIES = new TreeMap<>();
    private static final Map<String, Boolean> PRIVATE = new HashMap<>();
    /** By class: the type of each name that stands for an object of a class of the file. */
    private static final Map<String, Map<String, String>> TYPES = new HashMap<>();
    private static final Map<String, TreeSet<String>> CALLS = new TreeMap<>();
    private static final Map<String, TreeSet<String>> REACHED = new HashMap<>();

    private static void readSource() throws IOException {
        String text = Files.readString(Path.of("src/main/java/ForeheadMarks.java"));
        String code = text.replaceAll("(?s)/\\*.*?\\*/", " ").replaceAll("//[^\\n]*", " ").replaceAll("\"[^\"]*\"|'[^']'", "S");
        Pattern classHead = Pattern.compile("^    private static final class (\\w+) \\{$");
        Pattern methodHead = Pattern.compile("^(?:    |        )(?!return |else |new )((?:[\\w\\[\\]]+ )*)(\\w+)\\(([^()]*)\\) \\{$");
        String inside = OUTER;
        String method = "";
        for (String line : code.split("\n")) {
            Matcher c = classHead.matcher(line);
            if (c.find()) {
                inside = c.group(1);
                method = "";
            } else if (line.equals("    }")) {
                inside = OUTER;
                method = "";
            }
            Matcher m = methodHead.matcher(line);
            if (m.find() && !m.group(2).matches("if|for|while|switch")) {
                method = inside + "." + m.group(2);
                BODIES.put(method, new StringBuilder());
                PRIVATE.put(method, m.group(1).contains("private "));
            } else if (!method.isEmpty()) {
                BODIES.get(method).append(line).append('\n');
            }
            noteTypes(inside, line);
        }
    }

    private static void noteTypes(String inside, String line) {
        Matcher name = Pattern.compile("\\b([A-Z][a-z]\\w*) (\\w+)\\b").matcher(line);
        while (name.find()) {
            String before = TYPES.computeIfAbsent(inside, k -> new HashMap<>()).put(name.group(2), name.group(1));
            TestKit.due("one type for " + inside + " " + name.group(2), before == null || before.equals(name.group(1)), true);
        }
    }

    private static void findCalls() {
        Pattern call = Pattern.compile("(?:\\b((?:\\w+(?:\\(\\))?\\.)*\\w+(?:\\(\\))?)\\.)?\\b(\\w+)\\(");
        for (String from : BODIES.keySet()) {
            CALLS.put(from, new TreeSet<>());
            String inside = from.substring(0, from.indexOf('.'));
            Matcher m = call.matcher(BODIES.get(from));
            while (m.find()) {
                if (m.group(2).matches("if|for|while|switch|return")) {
                    continue;
                }
                String to = typeOf(inside, m.group(1)) + "." + m.group(2);
                if (BODIES.containsKey(to)) {
                    CALLS.get(from).add(to);
                } else {
                    TestKit.due("whom " + from + " calls: " + m.group(), to.matches("(Math|Integer|String)\\.\\w+"), true);
                }
            }
        }
    }

    /** The class of what stands ahead of the last dot; that of the caller, if nothing does. */
    private static String typeOf(String inside, String ahead) {
        if (ahead == null) {
            return inside;
        }
        if (ahead.matches("Math|Integer")) {
            return ahead;
        }
        String type = inside;
        for (String name : ahead.split("\\.")) {
            if (name.equals("WORDS")) {
                return "String";
            }
            String next = name.endsWith(")") ? null : TYPES.getOrDefault(type, Map.of()).get(name);
            type = next != null ? next : name.equals("lookAhead()") ? "Ahead" : "?";
        }
        return type;
    }

    private static TreeSet<String> reachedFrom(String from) {
        TreeSet<String> seen = new TreeSet<>();
        List<String> open = new ArrayList<>(CALLS.get(from));
        while (!open.isEmpty()) {
            String next = open.remove(open.size() - 1);
            if (seen.add(next)) {
                open.addAll(CALLS.get(next));
            }
        }
        return seen;
    }

    private static boolean together(String a, String b) {
        return a.equals(b) || REACHED.get(a).contains(b) && REACHED.get(b).contains(a);
    }

    /** The longest chain of calls from there; methods that call one another count as one. */
    private static int depth(String from, Map<String, Integer> known) {
        Integer before = known.get(from);
        if (before != null) {
            return before;
        }
        int deepest = 0;
        for (String member : CALLS.keySet()) {
            if (together(from, member)) {
                for (String to : CALLS.get(member)) {
                    deepest = together(from, to) ? deepest : Math.max(deepest, depth(to, known));
                }
            }
        }
        known.put(from, deepest + 1);
        return deepest + 1;
    }

    private static void chains() {
        for (String method : CALLS.keySet()) {
            REACHED.put(method, reachedFrom(method));
        }
        Map<String, Integer> known = new HashMap<>();
        int recursive = 0;
        int deepest = 0;
        for (String method : CALLS.keySet()) {
            if (REACHED.get(method).contains(method)) {
                recursive++;
                TestKit.due("recursion, private: " + method, PRIVATE.get(method), true);
                TestKit.due("recursion of the grammar alone: " + method, method.startsWith("Grammar."), true);
            }
            TestKit.due("calls go eight deep at most: " + method, depth(method, known) <= 8, true);
            deepest = Math.max(deepest, depth(method, known));
        }
        TestKit.due("methods of the grammar that call one another", recursive, 8);
        TestKit.due("the deepest chain", deepest, 8);
        TestKit.due("methods", CALLS.size() > 100, true);
    }

    /** The head of each loop has a counter against a bound. */
    private static void loops() {
        int found = 0;
        for (String method : BODIES.keySet()) {
            Matcher m = Pattern.compile("\\b(for|while) \\((.*)\\) \\{\n").matcher(BODIES.get(method));
            while (m.find()) {
                found++;
                TestKit.due("the end of " + m.group(2), Pattern.compile("\\b\\w+ (<=?|>=) ").matcher(m.group(2)).find(), true);
            }
            TestKit.due("do in " + method, Pattern.compile("\\bdo\\b").matcher(BODIES.get(method)).find(), false);
        }
        TestKit.due("loops", found > 60, true);
    }

    private static void fields() {
        List<Class<?>> classes = new ArrayList<>(List.of(ForeheadMarks.class.getDeclaredClasses()));
        classes.add(ForeheadMarks.class);
        for (Class<?> c : classes) {
            int count = 0;
            for (Field f : c.getDeclaredFields()) {
                boolean constant = Modifier.isStatic(f.getModifiers());
                count += constant ? 0 : 1;
                TestKit.due("final " + f, !constant || Modifier.isFinal(f.getModifiers()), true);
                String type = f.getType().getName();
                boolean own = classes.contains(f.getType()) && !constant;
                boolean plain = type.matches("int|long|boolean") || type.equals(constant ? "java.lang.String" : "[I");
                TestKit.due("the type of " + f, own || plain, true);
            }
            TestKit.due("fields of " + c.getName(), count <= 20, true);
        }
    }

    public static void main(String[] args) throws IOException {
        readSource();
        findCalls();
        chains();
        loops();
        fields();
        TestKit.finish();
    }
}
