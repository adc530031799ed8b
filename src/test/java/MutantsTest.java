import java.io.IOException;
import java.net.URLClassLoader;
import java.nio.file.Files;
import java.nio.file.Path;
import java.util.ArrayList;
import java.util.LinkedHashSet;
import java.util.List;
import java.util.Set;
import java.util.regex.Pattern;
import java.util.stream.Stream;

/**
 * The tests tested: for each sentence the class is broken in the ways that src/test/mutants tells, and each time
 * the trial of that sentence must find it.
 */
public final class MutantsTest {
    private static final Path SOURCE = Path.of("src/main/java/MatchedFlows.java");
    private static final Path MUTANTS = Path.of("src/test/mutants");

    private record Mutant(String sentence, String from, String to) { }

    public static void main(String[] args) throws IOException {
        String source = flat(Files.readString(SOURCE));
        List<Mutant> mutants = mutants();
        List<String> wrong = new ArrayList<>(sentencesWithout(mutants));
        if (SentencesTest.all().stream().anyMatch(s -> SentencesTest.broken(s.name()))) wrong.add("not even the class as it is holds");
        wrong.addAll(mutants.parallelStream().map(m -> wrongWith(source, m)).filter(w -> !w.isEmpty()).toList());
        wrong.forEach(System.out::println);
        System.out.println(wrong.isEmpty() ? mutants.size() + " mutants are found" : wrong.size() + " are not as due");
        if (!wrong.isEmpty()) System.exit(1);
    }

    /** Without what stands at a line's beginning, so that a mutant need not tell how far it is indented. */
    private static String flat(String source) { return Pattern.compile("^ +", Pattern.MULTILINE).matcher(source).replaceAll(""); }

    private static List<Mutant> mutants() throws IOException {
        List<Mutant> all = new ArrayList<>();
        try (Stream<Path> files = Files.list(MUTANTS)) {
            for (Path file : files.sorted().toList()) addMutants(all, Files.readString(file));
        }
        return all;
    }

    private static void addMutants(List<Mutant> all, String text) {
        for (String part : text.split("\n## ")) {
            String[] blocks = part.split("\n\\s*\n");
            String[] first = blocks[0].split("\n", 2);
            if (first.length < 2 || !first[1].startsWith("-")) continue;
            blocks[0] = first[1];
            for (String block : blocks) all.add(new Mutant(first[0].trim(), lines(block, "-"), lines(block, "+")));
        }
    }

    private static String lines(String block, String mark) {
        List<String> found = new ArrayList<>();
        for (String line : block.split("\n")) if (line.startsWith(mark)) found.add(line.substring(1).trim());
        return String.join("\n", found);
    }

    private static List<String> sentencesWithout(List<Mutant> mutants) {
        Set<String> names = new LinkedHashSet<>();
        SentencesTest.all().forEach(s -> names.add(s.name()));
        List<String> wrong = new ArrayList<>();
        for (Mutant m : mutants) if (!names.contains(m.sentence())) wrong.add("no trial of: " + m.sentence());
        mutants.forEach(m -> names.remove(m.sentence()));
        names.forEach(name -> wrong.add("no mutant of: " + name));
        return wrong;
    }

    private static String wrongWith(String source, Mutant m) {
        int at = source.indexOf(m.from());
        if (at < 0 || source.indexOf(m.from(), at + 1) >= 0) return "not once in the class: " + m;
        String broken = source.substring(0, at) + m.to() + source.substring(at + m.from().length());
        return isFound(broken, m.sentence()) ? "" : "not found: " + m;
    }

    private static boolean isFound(String source, String sentence) {
        try (URLClassLoader loader = Compiled.loader("MatchedFlows", source)) {
            return (boolean) loader.loadClass("SentencesTest").getMethod("broken", String.class).invoke(null, sentence);
        } catch (ReflectiveOperationException | IOException e) {
            throw new IllegalStateException(e);
        }
    }
}
