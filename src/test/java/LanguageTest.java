import com.sun.source.tree.CompilationUnitTree;
import com.sun.source.tree.Tree;
import com.sun.source.util.JavacTask;
import com.sun.source.util.Trees;
import java.io.IOException;
import java.net.URI;
import java.nio.file.Files;
import java.nio.file.Path;
import java.util.List;
import java.util.Set;
import java.util.TreeSet;
import javax.tools.Diagnostic;
import javax.tools.DiagnosticCollector;
import javax.tools.JavaFileObject;
import javax.tools.SimpleJavaFileObject;
import javax.tools.ToolProvider;

/** The rules of LANGUAGE.md that can be seen from the code's form; and that faults against them would be found. */
public final class LanguageTest {
    private static final Path CLASS = Path.of("src/main/java/VowDoves.java");

    public static void main(String[] args) throws IOException {
        Set<String> faults = faultsOf(Files.readString(CLASS));
        Due.due("LANGUAGE.md: " + faults, faults.size(), 0);
        plain();
        faces();
        forms();
        library();
        sizes();
        Due.end();
    }

    /** What the rules leave is not taken for a fault. */
    private static void plain() {
        for (String member : new String[] {
            "private int f(int x) { return x / 3 + x % 7; }",
            "private int f(int x, int y) { return y != 0 ? x / y : 0; }",
            "private int f(int[] row) { int all = 0; for (int n : row) { all += n; } return all + row.length; }",
            "private int[] f(int[] row) { return row.clone(); }",
            "private int f(String s) { return s.length() + Math.max(1, Integer.bitCount(3)); }",
            "private static final int[] ROW = {1, 2, 3};",
            "private enum Bird { NONE, DOVE, OWL }",
            "private record Pair(int one, int other) { }",
            "private String f(int x) { return new StringBuilder().append(x).append(\"a\").toString(); }"}) {
            Set<String> faults = faultsOfMember(member);
            Due.due("no fault in " + member + ": " + faults, faults.size(), 0);
        }
    }

    private static void faces() {
        finds("1", "int packageVisible() { return 1; }");
        finds("1", "protected int seen;");
        finds("1", "private int year() { return 1; } public int year(int kept) { return kept; }");
        finds("1", "public static class Open { }");
        finds("2", "private class Inner { }");
        finds("2", "private void f() { class Local { } }");
        finds("2", "private Object f() { return new Object() { }; }");
        finds("2", "private Runnable f() { return () -> { }; }");
        finds("2", "private Runnable f() { return this::g; } private void g() { }");
        finds("5", "private static int changes;");
        finds("5", "private static final int[] ROW = new int[3];");
        finds("5", "private static final boolean[] FLAGS = {true};");
        finds("5", "static { }");
    }

    private static void forms() {
        finds("3", "private int[][][] cube;");
        finds("3", "private String[][] texts;");
        finds("6", "private void f() { throw null; }");
        finds("6", "private void f() { try { } finally { } }");
        finds("6", "private synchronized void f() { }");
        finds("6", "private void f() { synchronized (this) { } }");
        finds("6", "private void f(int x) { assert x > 0; }");
        finds("6", "private boolean f(String a, String b) { return a == b; }");
        finds("6", "private boolean f(Integer a, Integer b) { return a != b; }");
        finds("6", "private static class A { public String toString() { return \"\"; } }");
        finds("7", "private int f(int x) { return 3 / x; }");
        finds("7", "private int f(int x) { return 3 % 0; }");
        finds("7", "private int f(int x, int y) { x %= y; return x; }");
        finds("9", "private void f() { while (true) { } }");
        finds("9", "private void f() { for (;;) { } }");
        finds("9", "private void f() { do { } while (true); }");
        finds("10", "private String f(int x) { return \"a\" + x; }");
        finds("10", "private String f(String s) { s += 'x'; return s; }");
    }

    private static void library() {
        finds("4", "private java.util.Map<Integer, Integer> map;");
        finds("4", "private double f(double x) { return Math.sqrt(x); }");
        finds("4", "private int f(int x) { return Math.addExact(x, x); }");
        finds("4", "private boolean f(String s) { return s.startsWith(\"a\"); }");
        finds("4", "private void f() { System.out.println(); }");
        finds("4", "private long f() { return System.nanoTime(); }");
        finds("4", "private int f() { return hashCode(); }");
        finds("4", "private void f(boolean[] a, boolean[] b) { System.arraycopy(a, 0, b, 0, 1); }");
        finds("4", "private String s = \"\u00e9\";");
    }

    private static void sizes() {
        finds("11", "private void f(int a, int b, int c, int d, int e, int f, int g, int h) { }");
        finds("11", "private void f(int a) {\n" + "a++;\n".repeat(70) + "}");
        StringBuilder fields = new StringBuilder();
        StringBuilder classes = new StringBuilder();
        for (int n = 0; n < 21; n++) {
            fields.append("private int f").append(n).append(";");
            classes.append("private static final class C").append(n).append(" { }");
        }
        finds("11", fields.toString());
        finds("11", classes.toString());
    }

    private static void finds(String rule, String member) {
        Set<String> faults = faultsOfMember(member);
        boolean isFound = faults.stream().anyMatch(fault -> fault.startsWith(rule + ":"));
        Due.due("rule " + rule + " in " + member + ": " + faults, isFound ? 1 : 0, 1);
    }

    private static Set<String> faultsOfMember(String member) {
        return faultsOf("public final class VowDoves { " + member + " }");
    }

    /** What is against the rules, each with the rule's number and its line. */
    private static Set<String> faultsOf(String text) {
        JavaFileObject file = new SimpleJavaFileObject(URI.create("string:///VowDoves.java"), JavaFileObject.Kind.SOURCE) {
            @Override
            public CharSequence getCharContent(boolean ignoreEncodingErrors) {
                return text;
            }
        };
        Set<String> faults = new TreeSet<>();
        DiagnosticCollector<JavaFileObject> told = new DiagnosticCollector<>();
        JavacTask task = (JavacTask) ToolProvider.getSystemJavaCompiler()
            .getTask(null, null, told, List.of("-proc:none"), null, List.of(file));
        try {
            CompilationUnitTree unit = task.parse().iterator().next();
            task.analyze();
            for (Tree type : unit.getTypeDecls()) {
                new LanguageRules(Trees.instance(task), unit, faults).readTop(type);
            }
            LanguageRules.readImports(unit, faults);
        } catch (IOException e) {
            throw new IllegalStateException(e);
        }
        for (Diagnostic<?> fault : told.getDiagnostics()) {
            if (fault.getKind() == Diagnostic.Kind.ERROR) {
                Due.due("it compiles: " + fault, 0, 1);
            }
        }
        return faults;
    }
}
