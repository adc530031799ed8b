import java.io.IOException;
import java.lang.management.ManagementFactory;
import java.lang.reflect.Constructor;
import java.lang.reflect.Field;
import java.lang.reflect.Method;
import java.lang.reflect.Modifier;
import java.nio.file.Files;
import java.nio.file.Path;
import java.util.Arrays;
import java.util.List;
import java.util.Set;
import java.util.TreeSet;
import java.util.regex.Matcher;
import java.util.regex.Pattern;

/** The public face, the rules of LANGUAGE.md that a text can be searched for, and the room that calls take. */
public final class RulesTest {
    private static final Path SOURCE = Path.of("src/main/java/MatchedFlows.java");
    private static final Set<String> FACE = new TreeSet<>(List.of("int proc()", "int node(int)", "int edge(int,int)",
        "int call(int,int,int)", "int flows(int,int,int,int)", "int starts(int)", "int cuts(int)", "int at(int,int)",
        "int about(int,int)", "int goes(int,int,int)", "int count(int)", "int holds(int)", "int loose(int)",
        "int origins(int,int)", "int summary(int,int)", "int entry(int,int)", "int witness(int,int,int)",
        "int type(int)", "int clear()", "int does()", "int back()", "int told(int)", "long digest()"));
    private static final String TEXT = "p;n0;";
    private static int wrong = 0;

    public static void main(String[] args) throws IOException {
        face();
        classesInside();
        words(Files.readString(SOURCE));
        methodsAreShort(Files.readAllLines(SOURCE));
        anyArguments();
        room();
        System.out.println(wrong == 0 ? "the rules are kept" : wrong + " rules are broken");
        if (wrong != 0) System.exit(1);
    }

    private static void check(boolean right, String what) {
        if (right) return;
        wrong++;
        System.out.println("broken: " + what);
    }

    private static String signature(Method m) {
        String parameters = String.join(",", Arrays.stream(m.getParameterTypes()).map(Class::getName).toList());
        return m.getReturnType().getName() + " " + m.getName() + "(" + parameters + ")";
    }

    private static void face() {
        Class<?> type = MatchedFlows.class;
        check(Modifier.isPublic(type.getModifiers()) && Modifier.isFinal(type.getModifiers()), "public and final");
        check(type.getPackageName().isEmpty(), "no package");
        Set<String> found = new TreeSet<>();
        Set<String> names = new TreeSet<>();
        for (Method m : type.getDeclaredMethods()) {
            if (!Modifier.isPrivate(m.getModifiers())) {
                found.add(signature(m));
                names.add(m.getName());
                check(Modifier.isPublic(m.getModifiers()) && !Modifier.isStatic(m.getModifiers()), "public: " + m);
            }
        }
        check(found.equals(FACE), "the methods " + found);
        for (Method m : type.getDeclaredMethods()) {
            check(!Modifier.isPrivate(m.getModifiers()) || !names.contains(m.getName()), "a public name: " + m);
        }
        for (Class<?> inside : type.getDeclaredClasses()) {
            for (Method m : inside.getDeclaredMethods()) check(!names.contains(m.getName()), "a public name: " + m);
        }
        Constructor<?>[] made = type.getDeclaredConstructors();
        check(made.length == 1 && Modifier.isPublic(made[0].getModifiers()) && made[0].getParameterCount() == 0, "constructor");
        Set<String> constants = new TreeSet<>();
        for (Field f : type.getDeclaredFields()) {
            if (Modifier.isPublic(f.getModifiers())) constants.add(f.getName());
            else check(Modifier.isPrivate(f.getModifiers()), "private: " + f);
        }
        check(constants.equals(new TreeSet<>(List.of("NONE", "BAD", "NO", "FULL"))), "the constants " + constants);
    }

    private static void classesInside() {
        Class<?>[] inside = MatchedFlows.class.getDeclaredClasses();
        check(inside.length <= 12, "some twelve classes");
        for (Class<?> c : inside) {
            check(Modifier.isStatic(c.getModifiers()), "static: " + c);
            check(Modifier.isPrivate(c.getModifiers()), "private: " + c);
        }
        for (Class<?> c : inside) fieldsOf(c);
        fieldsOf(MatchedFlows.class);
    }

    private static void fieldsOf(Class<?> c) {
        int own = 0;
        for (Field f : c.getDeclaredFields()) {
            boolean fixed = Modifier.isStatic(f.getModifiers());
            check(!fixed || Modifier.isFinal(f.getModifiers()), "static and not final: " + f);
            if (!fixed) own++;
        }
        check(own <= 20, "some twenty fields: " + c);
        for (Method m : c.getDeclaredMethods()) check(m.getParameterCount() <= 7, "seven parameters: " + m);
    }

    /** Comments and constants of text are left out, so that what is found is program. */
    private static void words(String source) {
        String program = source.replaceAll("(?s)/\\*.*?\\*/", " ").replaceAll("//[^\n]*", " ").replaceAll("'.'", "0");
        Pattern ruledOut = Pattern.compile("\\b(throw|throws|try|catch|finally|synchronized|assert|import|package|native|"
            + "volatile|transient|System\\.(?!arraycopy)\\w+|Thread|Random|Object|Exact|var|yield|hashCode|toString)\\b"
            + "|->|::|@|\"");
        Matcher m = ruledOut.matcher(program);
        while (m.find()) check(false, "not of the language: " + m.group());
        check(source.chars().allMatch(c -> c == '\n' || c >= 32 && c < 127), "plain signs alone");
        check(!program.contains("while (true)") && !program.contains("for (;;)"), "a loop without an end");
    }

    private static void methodsAreShort(List<String> lines) {
        int from = 0;
        String end = "";
        for (int i = 0; i < lines.size(); i++) {
            String line = lines.get(i);
            if (line.matches("( {4}| {8})[a-z].*\\) \\{")) {
                from = i;
                end = line.replaceAll("\\S.*", "}");
            }
            check(!line.equals(end) || i - from <= 60, "a long method at line " + (from + 1));
            if (line.equals(end)) end = "";
            check(line.length() <= 130, "a long line " + (i + 1));
        }
    }

    /** Every call with the most awkward numbers, on objects in many states. */
    private static void anyArguments() {
        int[] odd = {Integer.MIN_VALUE, -1000, -2, -1, 0, 1, 2, 3, 7, 8, 23, 24, 31, 32, 255, 256, 1000, Integer.MAX_VALUE};
        for (int k = 0; k < 400; k++) {
            MatchedFlows x = new MatchedFlows();
            for (int i = 0; i < 60; i++) callAny(x, (k * 7 + i * 11) % 23, odd, k * 31 + i * 17);
        }
    }

    private static void callAny(MatchedFlows x, int which, int[] odd, int turn) {
        int a = odd[turn % odd.length], b = odd[turn / 3 % odd.length], c = odd[turn / 7 % odd.length], d = odd[turn / 11 % odd.length];
        try {
            switch (which) {
                case 0 -> x.proc();
                case 1 -> x.node(a);
                case 2 -> x.edge(a, b);
                case 3 -> x.call(a, b, c);
                case 4 -> x.flows(a, b, c, d);
                case 5 -> x.starts(a);
                case 6 -> x.cuts(a);
                case 7 -> x.at(a, b);
                case 8 -> x.about(a, b);
                case 9 -> x.goes(a, b, c);
                case 10 -> x.count(a);
                case 11 -> x.holds(a);
                case 12 -> x.loose(a);
                case 13 -> x.origins(a, b);
                case 14 -> x.summary(a, b);
                case 15 -> x.entry(a, b);
                case 16 -> x.witness(a, b, c);
                case 17 -> x.type(a);
                case 18 -> x.clear();
                case 19 -> x.does();
                case 20 -> x.back();
                case 21 -> x.told(a);
                default -> x.digest();
            }
        } catch (RuntimeException e) {
            check(false, "call " + which + " with " + a + " " + b + " " + c + " " + d + ": " + e);
        }
    }

    /** All rows are made by the constructor; no call makes another. */
    private static void room() {
        com.sun.management.ThreadMXBean bean = (com.sun.management.ThreadMXBean) ManagementFactory.getThreadMXBean();
        MatchedFlows x = new MatchedFlows();
        allCalls(x);
        long before = bean.getCurrentThreadAllocatedBytes();
        for (int i = 0; i < 200; i++) allCalls(x);
        long taken = bean.getCurrentThreadAllocatedBytes() - before;
        check(taken < 4000, "calls take room: " + taken + " bytes for 200 rounds");
    }

    private static void allCalls(MatchedFlows x) {
        x.clear();
        for (int i = 0; i < TEXT.length(); i++) x.type(TEXT.charAt(i));
        x.does();
        x.node(0);
        x.edge(0, 1);
        x.call(0, 0, 1);
        x.flows(0, 0, 1, 6);
        x.starts(7);
        for (int f = 0; f < 8; f++) {
            x.holds(1);
            x.loose(1);
            x.origins(1, f);
            x.summary(1, f);
            x.entry(f, 2);
            x.witness(1, f, -1);
            x.witness(1, f, 1);
        }
        x.digest();
        x.cuts(0);
        x.back();
    }
}
