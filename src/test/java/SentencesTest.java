import java.io.IOException;
import java.nio.file.Files;
import java.nio.file.Path;
import java.util.ArrayList;
import java.util.LinkedHashSet;
import java.util.List;
import java.util.Set;

/** The document sentence by sentence: each that names a boundary has a trial of its own. */
public final class SentencesTest {
    private static final Path DOCUMENT = Path.of("../shared/DOC.md");

    public static void main(String[] args) throws IOException {
        List<String> wrong = quotes(Files.readString(DOCUMENT));
        for (Sentence s : all()) for (String what : wrongIn(s)) wrong.add(s.name() + "\n    " + what);
        wrong.forEach(System.out::println);
        System.out.println(wrong.isEmpty() ? all().size() + " sentences hold" : wrong.size() + " answers are not as due");
        if (!wrong.isEmpty()) System.exit(1);
    }

    static List<Sentence> all() {
        List<Sentence> all = new ArrayList<>(ProgramSentences.all());
        all.addAll(TableSentences.all());
        all.addAll(TextSentences.all());
        return all;
    }

    /** A trial that throws has found a fault, too: no call may. */
    private static List<String> wrongIn(Sentence s) {
        Due due = new Due();
        try {
            s.trial().accept(due);
        } catch (RuntimeException e) {
            due.wrong().add("threw " + e);
        }
        return due.wrong();
    }

    /** Whether the sentence of that name does not hold; MutantsTest asks it of classes that are broken on purpose. */
    public static boolean broken(String name) {
        for (Sentence s : all()) if (s.name().equals(name) && !wrongIn(s).isEmpty()) return true;
        return false;
    }

    /** Each sentence must stand in the document, in the section that is named, and once in the list. */
    private static List<String> quotes(String document) {
        List<String> wrong = new ArrayList<>();
        Set<String> names = new LinkedHashSet<>();
        for (Sentence s : all()) {
            if (!names.add(s.name())) wrong.add("twice: " + s.name());
            if (!section(document, s.where()).contains(s.words())) wrong.add("not in the document: " + s.name());
        }
        return wrong;
    }

    private static String section(String document, String where) {
        for (String part : document.split("\n## ")) {
            if (part.startsWith(where + "\n") || part.startsWith(where + ":")) return part.replaceAll("\\s+", " ");
        }
        return "";
    }
}
