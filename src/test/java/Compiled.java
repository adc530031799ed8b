import java.io.ByteArrayOutputStream;
import java.io.IOException;
import java.io.OutputStream;
import java.net.URI;
import java.net.URL;
import java.net.URLClassLoader;
import java.util.HashMap;
import java.util.List;
import java.util.Map;
import javax.tools.DiagnosticCollector;
import javax.tools.FileObject;
import javax.tools.ForwardingJavaFileManager;
import javax.tools.JavaCompiler;
import javax.tools.JavaFileManager;
import javax.tools.JavaFileObject;
import javax.tools.SimpleJavaFileObject;
import javax.tools.StandardJavaFileManager;
import javax.tools.ToolProvider;

/** Classes that a test compiles of a text: they are kept as bytes, not as files. */
final class Compiled {
    private static final JavaCompiler COMPILER = ToolProvider.getSystemJavaCompiler();

    private Compiled() { }

    /** The classes of the test anew, so that they use those of the text in place of their own. */
    static URLClassLoader loader(String name, String source) { return new Loader(classes(name, source)); }

    private static Map<String, byte[]> classes(String name, String source) {
        DiagnosticCollector<JavaFileObject> problems = new DiagnosticCollector<>();
        try (Output output = new Output(COMPILER.getStandardFileManager(problems, null, null))) {
            boolean right = COMPILER.getTask(null, output, problems, List.of("-proc:none"), null, List.of(new Input(name, source))).call();
            if (!right) throw new IllegalStateException("does not compile: " + problems.getDiagnostics());
            return output.classes();
        } catch (IOException e) {
            throw new IllegalStateException(e);
        }
    }

    private static final class Input extends SimpleJavaFileObject {
        private final String source;

        Input(String name, String source) {
            super(URI.create("string:///" + name + ".java"), Kind.SOURCE);
            this.source = source;
        }

        @Override public CharSequence getCharContent(boolean ignoreErrors) { return source; }
    }

    private static final class Output extends ForwardingJavaFileManager<StandardJavaFileManager> {
        private final Map<String, ByteArrayOutputStream> made = new HashMap<>();

        Output(StandardJavaFileManager files) { super(files); }

        @Override public JavaFileObject getJavaFileForOutput(JavaFileManager.Location where, String name, JavaFileObject.Kind kind,
                FileObject beside) {
            return new SimpleJavaFileObject(URI.create("mem:///" + name + ".class"), kind) {
                @Override public OutputStream openOutputStream() {
                    return made.computeIfAbsent(name, n -> new ByteArrayOutputStream());
                }
            };
        }

        Map<String, byte[]> classes() {
            Map<String, byte[]> classes = new HashMap<>();
            made.forEach((name, bytes) -> classes.put(name, bytes.toByteArray()));
            return classes;
        }
    }

    private static final class Loader extends URLClassLoader {
        private final Map<String, byte[]> classes;

        Loader(Map<String, byte[]> classes) {
            super(new URL[] {Compiled.class.getProtectionDomain().getCodeSource().getLocation()}, ClassLoader.getPlatformClassLoader());
            this.classes = classes;
        }

        @Override protected Class<?> findClass(String name) throws ClassNotFoundException {
            byte[] bytes = classes.get(name);
            return bytes == null ? super.findClass(name) : defineClass(name, bytes, 0, bytes.length);
        }
    }
}
