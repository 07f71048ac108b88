import com.sun.source.tree.CompilationUnitTree;
import com.sun.source.util.JavacTask;
import com.sun.source.util.Trees;
import java.io.IOException;
import java.lang.reflect.Array;
import java.lang.reflect.Field;
import java.net.URI;
import java.nio.file.Files;
import java.nio.file.Path;
import java.util.List;
import java.util.Set;
import javax.tools.JavaCompiler;
import javax.tools.JavaFileObject;
import javax.tools.SimpleJavaFileObject;
import javax.tools.ToolProvider;

/** The rules of LANGUAGE.md, as far as they can be read off the program's text or its fields. */
public final class LanguageTest {
    private static final Check CHECK = new Check();
    private static final Path PROGRAM = Path.of("src/main/java/SuccessTyping.java");

    public static void main(String[] args) throws IOException {
        String program = Files.readString(PROGRAM);
        CHECK.sentence("src/main/java/SuccessTyping.java keeps to the rules",
            () -> CHECK.due("what breaks a rule", broken(program).toString(), "[]"));
        CHECK.sentence("(the rules are read aright)", LanguageTest::rulesBite);
        CHECK.sentence("4. with a length, 1 or more; the greatest length that the document allows",
            LanguageTest::lengths);
        CHECK.finish();
    }

    private static Set<String> broken(String text) {
        JavaCompiler compiler = ToolProvider.getSystemJavaCompiler();
        JavaFileObject source = new SimpleJavaFileObject(URI.create("string:///SuccessTyping.java"),
                JavaFileObject.Kind.SOURCE) {
            @Override
            public CharSequence getCharContent(boolean ignored) {
                return text;
            }
        };
        JavacTask task = (JavacTask) compiler.getTask(null, null, null, null, null, List.of(source));
        try {
            CompilationUnitTree unit = task.parse().iterator().next();
            return LanguageRules.broken(unit, Trees.instance(task).getSourcePositions());
        } catch (IOException thrown) {
            throw new IllegalStateException(thrown);
        }
    }

    private static void breaks(int rule, String members) {
        breaksWhole(rule, "public final class T { " + members + " }");
    }

    private static void breaksWhole(int rule, String text) {
        Set<String> found = broken(text);
        boolean told = found.stream().anyMatch(what -> what.startsWith(rule + ":"));
        CHECK.due("rule " + rule + " is broken by " + text + " " + found, told, true);
    }

    private static void keeps(String members) {
        String text = "public final class T { " + members + " }";
        CHECK.due("what breaks a rule in " + text, broken(text).toString(), "[]");
    }

    private static void rulesBite() {
        keeps("private static final int N = 8; private final int[] a = new int[N];"
            + " public int f(int x) { for (int i = 0; i < N; i++) { a[i] = (byte) x; } return g(x); }"
            + " private int g(int x) { return x > 0 && x < N ? a[x] : a.length; }");
        keeps("private final int[] a; public T(int n) { this.a = new int[8]; }");
        breaksWhole(1, "package p; public final class T { }");
        breaksWhole(1, "public final class T { } class U { }");
        breaksWhole(3, "import java.util.List; public final class T { }");
        breaks(1, "int a;");
        breaks(1, "int f() { return 0; }");
        breaks(1, "private static final class U { }");
        breaks(1, "public int f() { return 0; } private int f(int x) { return x; }");
        breaks(2, "private double d;");
        breaks(2, "private int[][] a;");
        breaks(2, "private String s;");
        breaks(2, "private String f() { return g; }");
        breaks(2, "private int f() { return (int) 1.5; }");
        breaks(3, "private int f() { return Math.abs(1); }");
        breaks(3, "private int f() { return Integer.MAX_VALUE; }");
        breaks(3, "private int f() { return hashCode(); }");
        breaks(4, "private void f() { int[] a = new int[3]; }");
        breaks(4, "private final int[] a = {1, 2};");
        breaks(4, "private int n; private final int[] a = new int[n];");
        breaks(4, "private int[] a; public T(int n) { if (n > 0) { a = new int[3]; } }");
        breaks(4, "private int[] a; public T(int n) { a = new int[n]; }");
        breaks(4, "private int[] a = new int[3]; private int[] f() { return a; }");
        breaks(4, "private int[] a; private int[] b; private boolean f() { return a == b; }");
        breaks(4, "private int[] a; private int[] b; private void f() { a = b; }");
        breaks(4, "private int[] a = null;");
        breaks(5, "private static int n;");
        breaks(5, "private static int n = 3;");
        breaks(5, "private static final int[] A = new int[3];");
        breaks(5, "static { }");
        breaks(6, "private void f() { throw g; }");
        breaks(6, "private void f() { try { g(); } finally { } }");
        breaks(6, "private synchronized void f() { }");
        breaks(6, "private void f() { assert true; }");
        breaks(8, "private void f() { f(); }");
        breaks(8, "private void f() { g(); } private void g() { h(); } private void h() { f(); }");
        breaks(8, "private void f() { while (true) { } }");
        breaks(8, "private boolean b; private void f() { while (b) { g(); } } private void g() { }");
        breaks(8, "private void f() { for (;;) { } }");
        breaks(10, "private int f(int x) { return x; } private int g() { return f(f(1)); }");
        breaks(10, "private void f(int a, int b, int c, int d, int e, int g, int h, int i) { }");
        breaks(10, "private void f() { " + "\n".repeat(90) + "}");
        breaks(10, "private void a() { b(); } private void b() { c(); } private void c() { d(); }"
            + "private void d() { e(); } private void e() { f(); } private void f() { g(); }"
            + "private void g() { h(); } private void h() { }");
    }

    private static void lengths() {
        SuccessTyping small = new SuccessTyping(1, 16);
        SuccessTyping large = new SuccessTyping(8, 128);
        CHECK.due("two objects", small == large, false);
        for (Field field : SuccessTyping.class.getDeclaredFields()) {
            if (field.getType().isArray()) {
                int length = length(field, small);
                CHECK.due(field.getName() + " has a length", length >= 1, true);
                CHECK.due("the length of " + field.getName(), length, length(field, large));
            }
        }
    }

    private static int length(Field field, SuccessTyping of) {
        try {
            field.setAccessible(true);
            return Array.getLength(field.get(of));
        } catch (IllegalAccessException thrown) {
            throw new IllegalStateException(thrown);
        }
    }
}
