import java.io.IOException;
import java.lang.reflect.Field;
import java.lang.reflect.Method;
import java.lang.reflect.Modifier;
import java.net.URLClassLoader;
import java.nio.file.Files;
import java.nio.file.Path;
import java.util.ArrayList;
import java.util.Comparator;
import java.util.List;
import java.util.Set;
import java.util.TreeSet;
import java.util.regex.Matcher;
import java.util.regex.Pattern;
import java.util.stream.Stream;

/** README.md: its calls are compiled and run, and answer what it names; its commands are run; its paths are there. */
public final class ReadmeTest {
    private static final Path README = Path.of("README.md");
    private static final String ALL_TESTS = ".ci/run";
    private static final int MOST_CALLS = 512;
    private static final String MADE = "MatchedFlows x = new MatchedFlows();";
    /** A call, perhaps kept under a name, and behind it the answer that is due. */
    private static final Pattern CALL = Pattern.compile("((?:int|long) \\w+ = )?(x\\.(\\w+)\\(.*\\)); +// (-?\\d+|NONE|BAD|NO|FULL): .+");
    private static final Pattern CONSTANT = Pattern.compile("\\| `(\\w+)` +\\| (-?\\d+) \\|.*");
    private static final Pattern PATH = Pattern.compile("(?<![\\w/.])(?:\\.\\./shared|src|\\.ci)(?:/\\w[\\w.]*)*");

    private record Shown(int line, String kept, String call, String method, String answer) { }

    public static void main(String[] args) throws IOException, InterruptedException {
        List<String> readme = Files.readAllLines(README);
        List<String> wrong = new ArrayList<>(wrongCalls(readme));
        if (wrong.isEmpty()) wrong.addAll(notNoticed(readme));
        wrong.addAll(notShown(readme));
        wrong.addAll(wrongConstants(readme));
        wrong.addAll(wrongPaths(readme));
        wrong.addAll(wrongCommands(readme));
        wrong.forEach(System.out::println);
        System.out.println(wrong.isEmpty() ? shown(readme).size() + " calls answer as README.md says" : wrong.size() + " faults of README.md");
        if (!wrong.isEmpty()) System.exit(1);
    }

    /** The numbers of the lines that stand between ```language and ```, block by block. */
    private static List<List<Integer>> blocks(List<String> readme, String language) {
        List<List<Integer>> blocks = new ArrayList<>();
        boolean within = false;
        for (int i = 0; i < readme.size(); i++) {
            boolean mark = readme.get(i).startsWith("```");
            if (mark && !within && readme.get(i).equals("```" + language)) blocks.add(new ArrayList<>());
            if (mark) within = !within && readme.get(i).equals("```" + language);
            else if (within) blocks.get(blocks.size() - 1).add(i);
        }
        return blocks;
    }

    private static List<Shown> shown(List<String> readme) {
        List<Shown> found = new ArrayList<>();
        for (List<Integer> block : blocks(readme, "java")) {
            for (int i : block) {
                Matcher m = CALL.matcher(readme.get(i));
                if (m.matches()) found.add(new Shown(i, m.group(1), m.group(2), m.group(3), m.group(4)));
            }
        }
        return found;
    }

    private static List<String> wrongCalls(List<String> readme) {
        List<Shown> shown = shown(readme);
        List<String> wrong = new ArrayList<>();
        int made = 0;
        for (List<Integer> block : blocks(readme, "java")) {
            for (int i : block) {
                if (readme.get(i).equals(MADE)) made++;
                else if (!CALL.matcher(readme.get(i)).matches()) wrong.add("no answer is named: " + readme.get(i));
            }
        }
        if (made != 1) wrong.add("not one object is made, but " + made);
        if (shown.size() > MOST_CALLS) wrong.add("more calls than an object is used for: " + shown.size());
        if (!wrong.isEmpty()) return wrong;
        long[] answers = answers(shown);
        for (int i = 0; i < answers.length; i++) {
            Shown s = shown.get(i);
            if (answers[i] != due(s)) wrong.add("line " + (s.line() + 1) + ": " + s.call() + " answers " + answers[i] + ", not " + s.answer());
        }
        return wrong;
    }

    private static long due(Shown s) {
        return switch (s.answer()) {
            case "NONE" -> MatchedFlows.NONE;
            case "BAD" -> MatchedFlows.BAD;
            case "NO" -> MatchedFlows.NO;
            case "FULL" -> MatchedFlows.FULL;
            default -> Long.parseLong(s.answer());
        };
    }

    private static String program(List<Shown> shown) {
        StringBuilder s = new StringBuilder("public final class Calls {\n public static long[] answers() {\n  " + MADE
            + "\n  long[] answers = new long[" + shown.size() + "];\n");
        for (int i = 0; i < shown.size(); i++) {
            Shown one = shown.get(i);
            String kept = one.kept() == null ? "" : one.kept().split(" ")[1];
            if (kept.isEmpty()) s.append("  answers[" + i + "] = " + one.call() + ";\n");
            else s.append("  " + one.kept() + one.call() + ";\n  answers[" + i + "] = " + kept + ";\n");
        }
        return s.append("  return answers;\n }\n}\n").toString();
    }

    private static long[] answers(List<Shown> shown) {
        try (URLClassLoader loader = Compiled.loader("Calls", program(shown))) {
            return (long[]) loader.loadClass("Calls").getMethod("answers").invoke(null);
        } catch (ReflectiveOperationException | IOException e) {
            throw new IllegalStateException(e);
        }
    }

    /** The test tested: were any one answer another, or not named, it must be found. */
    private static List<String> notNoticed(List<String> readme) {
        return shown(readme).parallelStream().flatMap(s -> Stream.of("// 77: ", "// ").map(other -> {
            List<String> changed = new ArrayList<>(readme);
            changed.set(s.line(), readme.get(s.line()).replace("// " + s.answer() + ": ", other));
            return wrongCalls(changed).size() == 1 ? "" : "another answer is not noticed: " + changed.get(s.line());
        })).filter(w -> !w.isEmpty()).toList();
    }

    /** Each call of the face is shown, and each test is told of. */
    private static List<String> notShown(List<String> readme) throws IOException {
        Set<String> missing = new TreeSet<>();
        for (Method m : MatchedFlows.class.getDeclaredMethods()) if (Modifier.isPublic(m.getModifiers())) missing.add(m.getName());
        shown(readme).forEach(s -> missing.remove(s.method()));
        try (Stream<Path> files = Files.list(Path.of("src/test/java"))) {
            files.map(f -> f.getFileName().toString()).filter(f -> f.endsWith("Test.java")).forEach(f -> missing.add(f.replace(".java", "")));
        }
        missing.removeIf(name -> readme.stream().anyMatch(line -> line.startsWith("| `" + name + "` |")));
        return missing.stream().map(name -> "not shown: " + name).toList();
    }

    private static List<String> wrongConstants(List<String> readme) {
        Set<String> due = new TreeSet<>();
        try {
            for (Field f : MatchedFlows.class.getFields()) due.add(f.getName() + " " + f.getInt(null));
        } catch (IllegalAccessException e) {
            throw new IllegalStateException(e);
        }
        Set<String> told = new TreeSet<>();
        for (String line : readme) {
            Matcher m = CONSTANT.matcher(line);
            if (m.matches()) told.add(m.group(1) + " " + m.group(2));
        }
        return told.equals(due) ? List.of() : List.of("the constants are " + due + ", not " + told);
    }

    private static List<String> wrongPaths(List<String> readme) {
        List<String> wrong = new ArrayList<>();
        for (String line : readme) {
            Matcher m = PATH.matcher(line);
            while (m.find()) if (!Files.exists(Path.of(m.group()))) wrong.add("not there: " + m.group());
        }
        return wrong;
    }

    /** The command that runs all tests runs this one, too, so it is only looked for; the others are run. */
    private static List<String> wrongCommands(List<String> readme) throws IOException, InterruptedException {
        List<String> wrong = new ArrayList<>();
        boolean all = false;
        for (List<Integer> block : blocks(readme, "sh")) {
            String commands = String.join("\n", block.stream().map(readme::get).toList());
            if (commands.equals(ALL_TESTS)) all = Files.isExecutable(Path.of(ALL_TESTS));
            else if (!runs(commands)) wrong.add("does not run: " + commands);
        }
        if (!all) wrong.add("it is not told how to run all tests");
        return wrong;
    }

    /** In a folder that only looks like the checkout, so that nothing is left in this one. */
    private static boolean runs(String commands) throws IOException, InterruptedException {
        Path folder = Files.createTempDirectory("readme");
        try {
            Files.createSymbolicLink(folder.resolve("src"), Path.of("src").toAbsolutePath());
            Process p = new ProcessBuilder("sh", "-ec", commands).directory(folder.toFile()).redirectErrorStream(true).start();
            String printed = new String(p.getInputStream().readAllBytes());
            boolean right = p.waitFor() == 0;
            if (!right) System.out.print(printed);
            return right;
        } finally {
            try (Stream<Path> files = Files.walk(folder)) {
                for (Path file : files.sorted(Comparator.reverseOrder()).toList()) Files.delete(file);
            }
        }
    }
}
