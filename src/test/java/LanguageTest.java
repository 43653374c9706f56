import java.lang.reflect.Field;
import java.lang.reflect.Method;
import java.lang.reflect.Modifier;
import java.nio.file.Files;
import java.nio.file.Path;
import java.util.ArrayList;
import java.util.Arrays;
import java.util.List;
import java.util.Map;
import java.util.Set;
import java.util.TreeMap;
import java.util.TreeSet;
import java.util.regex.Matcher;
import java.util.regex.Pattern;

/** The rules of LANGUAGE.md that can be seen in the program's text and in its classes. */
public final class LanguageTest {
    private static final String[] FACE = {
        "boolean hills(int,int)", "boolean cell(int,int,int,int)", "int world()",
        "boolean wind(int,int,int,int)", "boolean light(int,int)", "boolean not(int,int)",
        "boolean drop(int,int)", "int burns(int,int)", "int burnt(int,int)", "int from(int,int)",
        "boolean safe(int)", "int crew(int)", "int out(int,int)", "int order(int,int,int)",
        "int look(int,int)", "boolean road(int)", "boolean exit(int)", "int village(int,int,int)",
        "int way(int,int)", "int last(int)", "boolean maybe(int)", "int plan(int)",
        "int about(int,int)", "int count(int)"};
    private static final String[] FORBIDDEN = {
        "\\bthrow\\b", "\\bthrows\\b", "\\btry\\b", "\\bcatch\\b", "\\bsynchronized\\b", "\\bassert\\b",
        "->", "::", "\\bdouble\\b", "\\bfloat\\b", "\\bThread\\b", "\\bRandom\\b", "\\bException\\b",
        "Exact\\b", "System\\.(?!arraycopy\\b)", "\\bObject\\b", "\\bpackage\\b", "\\bprotected\\b"};
    private static final int MOST_DEEP = 8;
    private static final Pattern METHOD = Pattern.compile(" {4,8}(?:[\\w\\[\\]]+ )+(\\w+)\\(.*\\) \\{");
    private static final Pattern CALLED = Pattern.compile("\\b(?!if\\b|for\\b|while\\b|switch\\b)([a-z]\\w*)\\(");
    private static int wrong = 0;

    private static void check(boolean fine, String what) {
        if (!fine) {
            wrong++;
            System.out.println(what);
        }
    }

    public static void main(String[] args) throws Exception {
        List<String> lines = Files.readAllLines(Path.of("src/main/java/FireLines.java"));
        words(lines);
        newOnlyWhereObjectsAreMade(lines);
        methodLengths(lines);
        callDepth(lines);
        face();
        classesInside();
        System.out.println(wrong == 0 ? "LanguageTest: all as due" : "LanguageTest: " + wrong + " wrong");
        if (wrong != 0) {
            System.exit(1);
        }
    }

    private static void words(List<String> lines) {
        for (int i = 0; i < lines.size(); i++) {
            String line = lines.get(i);
            String code = line.strip();
            check(line.chars().allMatch(c -> c >= 32 && c < 127), "line " + (i + 1) + ": a sign above 126");
            check(!code.startsWith("import ") || code.equals("import java.util.Arrays;"), "line " + (i + 1) + ": import");
            if (!code.startsWith("//") && !code.startsWith("*") && !code.startsWith("/*")) {
                for (String word : FORBIDDEN) {
                    check(!code.matches(".*(" + word + ").*"), "line " + (i + 1) + ": " + word);
                }
            }
        }
    }

    /** All rows are made with the object, none by a call: the room of a run stays small. */
    private static void newOnlyWhereObjectsAreMade(List<String> lines) {
        boolean inConstructor = false;
        for (int i = 0; i < lines.size(); i++) {
            String line = lines.get(i);
            if (line.equals("    public FireLines() {")) {
                inConstructor = true;
            } else if (line.equals("    }")) {
                inConstructor = false;
            }
            boolean field = line.matches(" {8}(private )?final \\w+\\[\\] \\w+ = new .*");
            check(!line.contains(" new ") || inConstructor || field || line.strip().startsWith("*"),
                "line " + (i + 1) + ": something is made in a call");
        }
    }

    private static void methodLengths(List<String> lines) {
        int start = 0;
        for (int i = 0; i < lines.size(); i++) {
            String line = lines.get(i);
            if (line.matches(" {4,8}[\\w\\[\\] ]+\\(.*\\) \\{")) {
                start = i;
            }
            if (line.matches(" {4}( {4})?\\}")) {
                check(i - start < 60, "line " + (i + 1) + ": a method of over sixty lines");
            }
        }
    }

    /** Which names each method calls; methods of one name count as one, which can only make a chain longer. */
    private static Map<String, Set<String>> callsByMethod(List<String> lines) {
        Map<String, Set<String>> calls = new TreeMap<>();
        Set<String> current = new TreeSet<>();
        for (String line : lines) {
            Matcher head = METHOD.matcher(line);
            if (head.lookingAt()) {
                current = calls.computeIfAbsent(head.group(1), name -> new TreeSet<>());
            } else if (!line.strip().startsWith("*") && !line.strip().startsWith("/")) {
                Matcher called = CALLED.matcher(line);
                while (called.find()) {
                    current.add(called.group(1));
                }
            }
        }
        return calls;
    }

    private static void callDepth(List<String> lines) {
        Map<String, Set<String>> calls = callsByMethod(lines);
        check(calls.containsKey("goOn") && calls.get("plan").contains("worstBurntWith"), "the calls were not found");
        for (String name : calls.keySet()) {
            check(depth(calls, name, 1) <= MOST_DEEP, name + " begins a chain of over eight calls");
        }
    }

    /** How many calls stand open at most; of a method that calls itself, over the most that may. */
    private static int depth(Map<String, Set<String>> calls, String name, int open) {
        int most = open;
        if (open <= MOST_DEEP && calls.containsKey(name)) {
            for (String called : calls.get(name)) {
                most = Math.max(most, depth(calls, called, open + 1));
            }
        }
        return most;
    }

    private static void face() {
        TreeSet<String> found = new TreeSet<>();
        TreeSet<String> names = new TreeSet<>();
        for (Method method : FireLines.class.getDeclaredMethods()) {
            if (Modifier.isPublic(method.getModifiers())) {
                found.add(method.getReturnType() + " " + method.getName()
                    + Arrays.toString(method.getParameterTypes()).replace('[', '(').replace(']', ')').replace(" ", ""));
                names.add(method.getName());
                check(!Modifier.isStatic(method.getModifiers()), method + " is static");
            }
        }
        check(found.equals(new TreeSet<>(Arrays.asList(FACE))), "the face is " + found);
        List<Class<?>> all = new ArrayList<>(Arrays.asList(FireLines.class.getDeclaredClasses()));
        all.add(FireLines.class);
        for (Class<?> each : all) {
            for (Method method : each.getDeclaredMethods()) {
                check(method.getParameterCount() <= 7, method + " takes over seven");
                boolean isFace = each == FireLines.class && Modifier.isPublic(method.getModifiers());
                check(isFace || !names.contains(method.getName()), method + " bears a name of the face");
                check(isFace || each != FireLines.class || Modifier.isPrivate(method.getModifiers()),
                    method + " is not private");
            }
        }
        for (Field field : FireLines.class.getDeclaredFields()) {
            check(Modifier.isPrivate(field.getModifiers()) || field.getName().equals("NONE"), field + " is not private");
        }
        check(Modifier.isFinal(FireLines.class.getModifiers()), "the class is not final");
        check(FireLines.class.getDeclaredConstructors().length == 1, "there is more than one constructor");
    }

    private static void classesInside() {
        Class<?>[] inside = FireLines.class.getDeclaredClasses();
        check(inside.length < 12, "over twelve classes");
        for (Class<?> each : inside) {
            check(Modifier.isStatic(each.getModifiers()), each + " is not static");
            int fields = 0;
            for (Field field : each.getDeclaredFields()) {
                boolean isStatic = Modifier.isStatic(field.getModifiers());
                check(!isStatic || Modifier.isFinal(field.getModifiers()), field + " is static and not final");
                fields += isStatic ? 0 : 1;
            }
            check(fields <= 20, each + " has over twenty fields");
        }
    }
}
