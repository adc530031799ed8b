import java.util.function.Consumer;

/** A sentence of the document, where it stands there, and the trial that would fail if it alone were broken. */
record Sentence(String where, String words, Consumer<Due> trial) {
    String name() { return where + ": " + words; }
}
