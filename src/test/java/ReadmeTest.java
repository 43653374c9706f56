import java.io.IOException;
import java.lang.reflect.Method;
import java.lang.reflect.Modifier;
import java.nio.file.Files;
import java.nio.file.Path;
import java.util.List;
import java.util.regex.Matcher;
import java.util.regex.Pattern;
import java.util.stream.Stream;

/** README.md tells the truth: its calls answer as it says, and it names every call and every test. */
public final class ReadmeTest {
    private static final Pattern CALL =
        Pattern.compile("x\\.(\\w+)\\(([-\\d, ]*)\\); +// (true|false|-?\\d+): .+");
    private static final Pattern EXAMPLE =
        Pattern.compile("```java\nFireLines x = new FireLines\\(\\); [^\n]*\n(.*?)\n```", Pattern.DOTALL);
    private static int wrong = 0;

    public static void main(String[] args) throws Exception {
        String text = Files.readString(Path.of("README.md"));
        answers(text);
        namesEachCall(text);
        namesEachTest(text);
        System.out.println(wrong == 0 ? "ReadmeTest: all as due" : "ReadmeTest: " + wrong + " wrong");
        if (wrong != 0) {
            System.exit(1);
        }
    }

    private static void check(boolean fine, String what) {
        if (!fine) {
            wrong++;
            System.out.println(what);
        }
    }

    private static void answers(String text) throws ReflectiveOperationException {
        Matcher example = EXAMPLE.matcher(text);
        boolean found = example.find();
        check(found, "there is no example that makes an object first");
        List<String> lines = found ? example.group(1).lines().toList() : List.of();
        FireLines x = new FireLines();
        for (String line : lines) {
            Matcher call = CALL.matcher(line);
            if (call.matches()) {
                String got = ask(x, call.group(1), call.group(2));
                check(got.equals(call.group(3)), line + "  answered " + got);
            } else {
                check(false, "no call with its answer: " + line);
            }
        }
    }

    private static String ask(FireLines x, String name, String numbers) throws ReflectiveOperationException {
        String[] words = numbers.isBlank() ? new String[0] : numbers.split(", *");
        Class<?>[] types = new Class<?>[words.length];
        Object[] values = new Object[words.length];
        for (int i = 0; i < words.length; i++) {
            types[i] = int.class;
            values[i] = Integer.valueOf(words[i]);
        }
        return String.valueOf(FireLines.class.getMethod(name, types).invoke(x, values));
    }

    private static void namesEachCall(String text) {
        for (Method method : FireLines.class.getDeclaredMethods()) {
            if (Modifier.isPublic(method.getModifiers())) {
                int arguments = method.getParameterCount();
                String inside = arguments == 0 ? "" : "\\w+(, \\w+){" + (arguments - 1) + "}";
                boolean named = Pattern.compile("`" + method.getName() + "\\(" + inside + "\\)`").matcher(text).find();
                check(named, "README.md does not tell of " + method);
            }
        }
    }

    private static void namesEachTest(String text) throws IOException {
        try (Stream<Path> files = Stream.concat(
                Files.list(Path.of("src/test/java")), Files.list(Path.of("src/test/support")))) {
            for (Path file : files.toList()) {
                String name = file.getFileName().toString().replace(".java", "");
                check(text.contains("`" + name + "`"), "README.md does not tell of " + file);
            }
        }
    }
}
