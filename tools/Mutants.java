import java.io.IOException;
import java.nio.file.Files;
import java.nio.file.Path;
import java.util.ArrayList;
import java.util.List;
import java.util.concurrent.ExecutorService;
import java.util.concurrent.Executors;
import java.util.concurrent.TimeUnit;
import java.util.regex.Matcher;
import java.util.regex.Pattern;
import java.util.stream.Stream;

/**
 * Breaks the class in one small place at a time and tells which such breaks no quick test notices.
 * Run by hand at the project's root: java tools/Mutants.java [first line] [last line]
 */
public final class Mutants {
    private static final String SOURCE = "src/main/java/FireLines.java";
    private static final String[] TESTS =
        {"FireEdgeTest", "CrewEdgeTest", "VillageEdgeTest", "PromiseEdgeTest", "RefusedTest"};
    private static final String[][] SWAPS = {
        {" < ", " <= "}, {" <= ", " < "}, {" > ", " >= "}, {" >= ", " > "}, {" == ", " != "}, {" != ", " == "},
        {" + ", " - "}, {" - ", " + "}, {" && ", " || "}, {" || ", " && "}, {"Math.max", "Math.min"},
        {"Math.min", "Math.max"}, {"return true", "return false"}, {"return false", "return true"},
        {"(!", "("}, {" !", " "}, {"++", "--"}, {" * ", " + "}};
    private static final Pattern NUMBER = Pattern.compile("(?<![\\w.])\\d+(?![\\w.])");

    private record Mutant(int line, String before, String after) { }

    public static void main(String[] args) throws Exception {
        List<String> lines = Files.readAllLines(Path.of(SOURCE));
        int first = args.length > 0 ? Integer.parseInt(args[0]) : 1;
        int last = args.length > 1 ? Integer.parseInt(args[1]) : lines.size();
        List<Mutant> mutants = new ArrayList<>();
        for (int i = first; i <= last; i++) {
            addMutants(mutants, i, lines.get(i - 1));
        }
        Path work = Files.createTempDirectory("mutants");
        compileTests(work);
        ExecutorService pool = Executors.newFixedThreadPool(Runtime.getRuntime().availableProcessors());
        int[] survived = new int[1];
        for (int m = 0; m < mutants.size(); m++) {
            Mutant mutant = mutants.get(m);
            Path place = work.resolve("m" + m);
            pool.submit(() -> {
                try {
                    if (!isNoticed(lines, mutant, work, place)) {
                        synchronized (survived) {
                            survived[0]++;
                            System.out.println(mutant.line + ": " + mutant.before.strip() + "\n    => " + mutant.after.strip());
                        }
                    }
                } catch (Exception e) {
                    System.out.println(mutant.line + ": " + e);
                }
            });
        }
        pool.shutdown();
        pool.awaitTermination(2, TimeUnit.HOURS);
        System.out.println(survived[0] + " of " + mutants.size() + " were not noticed");
        delete(work);
    }

    private static void addMutants(List<Mutant> mutants, int number, String line) {
        String code = line.strip();
        if (code.startsWith("//") || code.startsWith("*") || code.startsWith("/*") || code.startsWith("import")) {
            return;
        }
        for (String[] swap : SWAPS) {
            for (int at = line.indexOf(swap[0]); at >= 0; at = line.indexOf(swap[0], at + 1)) {
                String after = line.substring(0, at) + swap[1] + line.substring(at + swap[0].length());
                mutants.add(new Mutant(number, line, after));
            }
        }
        Matcher matcher = NUMBER.matcher(line);
        while (matcher.find()) {
            long value = Long.parseLong(matcher.group());
            for (long changed : new long[] {value + 1, value - 1}) {
                mutants.add(new Mutant(number, line, line.substring(0, matcher.start()) + "(" + changed + ")" + line.substring(matcher.end())));
            }
        }
        if (code.endsWith(";") && !code.startsWith("return") && !code.startsWith("final") && !code.startsWith("private")) {
            mutants.add(new Mutant(number, line, ";"));
        }
    }

    private static void compileTests(Path work) throws Exception {
        List<String> command = new ArrayList<>(List.of("javac", "-d", work.resolve("tests").toString(),
            "-sourcepath", "src/test/support", SOURCE));
        for (String test : TESTS) {
            command.add("src/test/java/" + test + ".java");
        }
        if (new ProcessBuilder(command).inheritIO().start().waitFor() != 0) {
            throw new IllegalStateException("the tests do not compile");
        }
    }

    /** Noticed is also what does not compile, throws, or does not end. */
    private static boolean isNoticed(List<String> lines, Mutant mutant, Path work, Path place) throws Exception {
        Files.createDirectories(place);
        List<String> changed = new ArrayList<>(lines);
        changed.set(mutant.line - 1, mutant.after);
        Path source = place.resolve("FireLines.java");
        Files.write(source, changed);
        if (!succeeds("javac", "-d", place.toString(), source.toString())) {
            return true;
        }
        for (String test : TESTS) {
            if (!succeeds("java", "-XX:TieredStopAtLevel=1", "-cp", place + ":" + work.resolve("tests"), test)) {
                delete(place);
                return true;
            }
        }
        delete(place);
        return false;
    }

    private static boolean succeeds(String... command) throws Exception {
        Process process = new ProcessBuilder(command).redirectErrorStream(true)
            .redirectOutput(ProcessBuilder.Redirect.DISCARD).start();
        if (!process.waitFor(60, TimeUnit.SECONDS)) {
            process.destroyForcibly();
            return false;
        }
        return process.exitValue() == 0;
    }

    private static void delete(Path root) throws IOException {
        try (Stream<Path> all = Files.walk(root)) {
            all.sorted((a, b) -> b.compareTo(a)).forEach(p -> p.toFile().delete());
        }
    }
}
