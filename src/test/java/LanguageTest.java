import java.io.IOException;
import java.nio.file.Files;
import java.nio.file.Path;
import java.util.Set;
import java.util.TreeSet;

/** The class keeps to LANGUAGE.md, and Rules, which tells so, sees each rule broken. */
public final class LanguageTest {
    private static final String KEPT = "static final int N = 3; private final int[] a = new int[N];"
        + " int f(int n) { int s = 0; for (int i = 0; i < n; i++) { s += g(n) / 2; } return (char) s; }"
        + " int g(int n) { for (int i = 9; n > 0 && i >= n; i--) { a[0]++; } return a[0]; }"
        + " int h() { int c = 1; for (int i = 0; i < N && i < c; i++) { c = c + 2; } return a.length; }";

    public static void main(String[] args) throws IOException {
        String source = Files.readString(Path.of("src/main/java/PaneMultiplexer.java"));
        Expect.same("rules broken by the class", Rules.brokenBy(source).toString(), "[]");
        rules(KEPT, "");
        seesTheFace();
        seesTypesAndNames();
        seesArrays();
        seesStatements();
        seesLoops();
        seesSizes();
        Expect.finish();
    }

    private static void seesTheFace() throws IOException {
        file("package p; final class X { }", "1");
        file("final class X { } final class Y { }", "1");
        file("interface X { }", "1");
        file("final class X extends Y { }", "1");
        file("import java.util.List; final class X { }", "3");
        rules("class Y { }", "1");
        rules("enum Y { }", "1");
        rules("void f() { class Y { } }", "1");
    }

    private static void seesTypesAndNames() throws IOException {
        rules("double d;", "2");
        rules("float f() { return 0; }", "2");
        rules("void f(String s) { }", "2");
        rules("int[][] a;", "2 4");
        rules("void f() { Object o; }", "2");
        rules("int f() { return 1.5 > 1 ? 1 : 0; }", "2");
        rules("boolean f() { return \"\" == \"\"; }", "2");
        rules("int f(int n) { return Math.abs(n); }", "3");
        rules("int f() { return Integer.MAX_VALUE; }", "3");
        rules("int f() { return hashCode(); }", "3");
        rules("@Deprecated int f() { return 0; }", "3");
        rules("static long n;", "5");
        rules("static final char C = 'c';", "5");
        rules("static final int[] A = new int[2];", "5");
        rules("static { }", "5");
    }

    private static void seesArrays() throws IOException {
        rules("final int[] a = new int[4];", "");
        rules("final int[] a = new int[0];", "4");
        rules("final int[] a = {1, 2};", "4");
        rules("int n; final int[] a = new int[n];", "4");
        rules("int[] a = new int[4];", "4");
        rules("void f() { int[] a = new int[4]; }", "4");
        rules("final int[] a = new int[4]; int[] f() { return a; }", "4");
        rules("final int[] a = new int[4]; boolean f(int[] b) { return a == b; }", "4");
        rules("final int[] a = new int[4]; boolean f() { return a != null; }", "4");
        rules("void f() { new X(); }", "4");
    }

    private static void seesStatements() throws IOException {
        rules("void f() { throw null; }", "6");
        rules("void f() { try { } finally { } }", "6");
        rules("void f() { synchronized (this) { } }", "6");
        rules("synchronized void f() { }", "6");
        rules("void f() { assert true; }", "6");
        rules("boolean f(int n) { return this instanceof X; }", "6");
        rules("void f() { g(() -> 1); } void g(int n) { }", "6");
        rules("void f() { g(X::new); } void g(int n) { }", "6");
        rules("void f() { g((X) this); } void g(int n) { }", "6");
        rules("int f(int n) { return (byte) n; }", "");
        rules("int f(int n) { return 1 / n; }", "7");
        rules("int f(int n) { return 1 % 0; }", "7");
        rules("int f(int n) { n /= n; return n % 100; }", "7");
    }

    private static void seesLoops() throws IOException {
        rules("void f() { while (true) { } }", "8");
        rules("void f() { do { } while (true); }", "8");
        rules("void f(int[] a) { for (int n : a) { } }", "8");
        rules("void f() { for (;;) { } }", "8");
        rules("void f(int n) { for (int i = 0; i < n; i--) { } }", "8");
        rules("void f(int n) { for (int i = 0; i != n; i++) { } }", "8");
        rules("void f(int n) { for (int i = 0; i <= n; i++) { } }", "8");
        rules("void f(int n) { for (int i = 0; i < n || n > 0; i++) { } }", "8");
        rules("void f(int n) { for (int i = 0; i < n; i++) { i = 0; } }", "8");
        rules("void f(int n) { for (int i = 0; i < n; i++) { n++; } }", "8");
        rules("void f(int n) { for (int i = 0; i < n; i++) { n += 2; } }", "8");
        rules("void f() { for (int i = 0; i < g(); i++) { } } int g() { return 1; }", "8");
        rules("void f() { f(); }", "8");
        rules("void f() { g(); } void g() { h(); } void h() { f(); }", "8");
    }

    private static void seesSizes() throws IOException {
        rules("void f(int a, int b, int c, int d, int e, int g, int h) { }", "");
        rules("void f(int a, int b, int c, int d, int e, int g, int h, int i) { }", "10");
        rules("int f(int n) { return f2(f3(n)); } int f2(int n) { return n; } int f3(int n) { return n; }",
            "10");
        rules("void f() { " + "\n".repeat(59) + "}", "");
        rules("void f() { " + "\n".repeat(60) + "}", "10");
        rules(numbered("int n%d;", 40), "");
        rules(numbered("int n%d;", 41), "10");
        rules(numbered("static final int N%d = 1;", 41), "");
        rules("void f0() { }" + numbered("void f%d() { f%d(); }", 5), "");
        rules("void f0() { }" + numbered("void f%d() { f%d(); }", 6), "10");
    }

    private static String numbered(String form, int count) {
        StringBuilder text = new StringBuilder();
        for (int n = 1; n <= count; n++) {
            text.append(String.format(form, n, n - 1));
        }
        return text.toString();
    }

    private static void rules(String members, String want) throws IOException {
        file("public final class X { " + members + " }", want);
    }

    /** The numbers of the rules that Rules sees broken, each once. */
    private static void file(String source, String want) throws IOException {
        Set<String> numbers = new TreeSet<>();
        for (String broken : Rules.brokenBy(source)) {
            numbers.add(broken.substring(0, broken.indexOf(':')));
        }
        Expect.same("rules broken by " + source, String.join(" ", numbers), want);
    }
}
