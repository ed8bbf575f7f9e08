import java.io.IOException;
import java.nio.file.Files;
import java.nio.file.Path;
import java.util.List;
import java.util.Set;

/** The source keeps to LANGUAGE.md, as far as it shows by itself; and the look at it sees what it should. */
public final class SourceTest {
    private static final Path SOURCE = Path.of("src/main/java/DreamGuard.java");

    private final Check check = new Check();

    private SourceTest() { }

    public static void main(String[] args) throws IOException {
        SourceTest test = new SourceTest();
        test.theSource(Files.readString(SOURCE));
        test.whatIsRight();
        test.wrongClasses();
        test.wrongTypesAndCalls();
        test.wrongStatics();
        test.wrongExceptions();
        test.wrongLoopsAndDivisors();
        test.wrongSizes();
        test.wrongDepths();
        test.check.finish();
    }

    private void theSource(String source) throws IOException {
        List<String> faults = Language.faultsOf("DreamGuard", source);
        check.same("breaches of LANGUAGE.md " + faults, faults.size(), 0);
        Set<String> thrown = Language.thrownIn("DreamGuard", source);
        check.holds("only man throws, but " + thrown, thrown.equals(Set.of("NoSuchElementException in man")));
        check.holds("plain signs alone", source.chars().allMatch(c -> c == '\n' || c >= 32 && c < 127));
        check.fails("a package line", source.startsWith("package"));
    }

    private void right(String body) throws IOException {
        List<String> faults = Language.faultsOf("X", "public final class X { " + body + " }");
        check.same("a breach is seen in \"" + body + "\": " + faults, faults.size(), 0);
    }

    private void wrong(int rule, String body) throws IOException {
        wrongSource(rule, "public final class X { " + body + " }");
    }

    private void wrongSource(int rule, String source) throws IOException {
        boolean seen = Language.faultsOf("X", source).stream().anyMatch(line -> line.startsWith("rule " + rule + ","));
        check.holds("a breach of rule " + rule + " is seen in \"" + source + "\"", seen);
    }

    private void whatIsRight() throws IOException {
        right("");
        right("private static final int[] A = {1, 2}; private static final String B = \"ab\"; private int[][] c;");
        right("private static final class Y { int z; } private final Y[] ys = new Y[3]; private boolean[] b;");
        right("private int f(int a, int b) { return b == 0 ? 0 : a / b + a % 10 + Math.max(a, b) + \"ab\".charAt(0); }");
        right("private int f(int depth) { return depth > 9 ? 0 : g(depth + 1); } private int g(int depth) { return f(depth); }");
        right("private int f() { int n = 0; for (int k = 0; k < 9; k++) { n++; } while (n > 0) { n--; } return n; }");
        right("public int f() { throw new IllegalStateException(\"no\"); }");
    }

    private void wrongClasses() throws IOException {
        wrongSource(1, "public class X { }");
        wrongSource(1, "final class X { }");
        wrong(1, "private class Y { }");
        wrong(1, "public static class Y { }");
        wrong(1, "public int f() { return 1; } private static class Y { int f() { return 2; } }");
        wrong(1, "public int f() { return 1; } private int f(int a) { return a; }");
        wrong(2, "private void f() { class Y { } }");
        wrong(2, "private interface F { int f(); } private F f() { return () -> 1; }");
        wrong(2, "private interface F { int f(); } private static int g() { return 1; } private F f() { return X::g; }");
    }

    private void wrongTypesAndCalls() throws IOException {
        wrong(3, "private int[][][] a;");
        wrong(3, "private boolean[][] a;");
        wrong(3, "private String[] a;");
        wrong(3, "private Object a;");
        wrong(3, "private Long f() { return null; }");
        wrong(3, "private void f(java.util.Map<Integer, Integer> a) { }");
        wrongSource(4, "import java.util.Map; public final class X { }");
        wrong(4, "private int f(int a, int b) { return Math.addExact(a, b); }");
        wrong(4, "private long f() { return System.nanoTime(); }");
        wrong(4, "private String f(int a) { return String.valueOf(a); }");
        wrong(4, "private void f() { new Object().hashCode(); }");
        wrong(4, "private String f() { return \"" + (char) 233 + "\"; }");
    }

    private void wrongStatics() throws IOException {
        wrong(5, "private static int a = 1;");
        wrong(5, "private static final int[] A = new int[3];");
        wrong(5, "private static final boolean[] A = {true};");
        wrong(5, "private static class Y { } private static final Y A = new Y();");
        wrong(5, "private static final int A; static { A = 1; }");
        wrong(5, "private static final int[] A = {1}; private void f() { A[0] = 2; }");
        wrong(5, "private static final int[] A = {1}; private void f() { A[0]++; }");
        wrong(5, "private static final int[] A = {1}; private void f() { A[0] += 2; }");
        wrong(5, "private static final int[] A = {1}; private void f(int[] a) { System.arraycopy(a, 0, A, 0, 1); }");
    }

    private void wrongExceptions() throws IOException {
        wrong(6, "private void f() { throw new Error(); }");
        wrong(6, "private void f(String a) { throw new IllegalStateException(a); }");
        wrong(6, "private void f(RuntimeException a) { throw a; }");
        wrong(6, "public X() { throw new IllegalStateException(); }");
        wrong(6, "private int f(int[] a) { try { return a[0]; } catch (IndexOutOfBoundsException e) { return 0; } }");
        wrong(6, "private void f() { synchronized (this) { } }");
        wrong(6, "private void f() { assert true; }");
        wrong(6, "private static class Y { } private static class Z extends Y { } private Z f(Y y) { return (Z) y; }");
        wrong(6, "private boolean f(String a, String b) { return a == b; }");
        wrong(6, "private boolean f(Integer a, Integer b) { return a != b; }");
        wrong(6, "public String toString() { return null; }");
    }

    private void wrongLoopsAndDivisors() throws IOException {
        wrong(7, "private int f(int a, int b) { return a / b; }");
        wrong(7, "private int f(int a, int b) { return a % b; }");
        wrong(7, "private int f(int a, int b) { a /= b; return a; }");
        wrong(7, "private int f(int a) { return a / 0; }");
        wrong(9, "private void f() { for (;;) { } }");
        wrong(9, "private void f(boolean a) { while (a) { } }");
        wrong(9, "private void f(boolean a) { do { } while (a); }");
        wrong(10, "private String f(int a) { return \"a\" + a; }");
        wrong(10, "private String f(String a) { a += 1; return a; }");
    }

    private void wrongSizes() throws IOException {
        wrong(11, "private void f(int a, int b, int c, int d, int e, int f, int g, int h) { }");
        wrong(11, "private void f() {" + "\n".repeat(60) + "}");
        StringBuilder fields = new StringBuilder();
        StringBuilder classes = new StringBuilder();
        for (int k = 0; k < 21; k++) {
            fields.append("private int a").append(k).append(";");
            classes.append("private static class Y").append(k).append(" { }");
        }
        wrong(11, fields.toString());
        wrong(11, classes.toString());
        wrong(12, "private static class Y { } private void f() { for (int k = 0; k < 9; k++) { new Y(); } }");
        wrong(12, "private void f() { for (int k = 0; k < 9; k++) { int[] a = new int[3]; } }");
        wrong(12, "public X() { f(); } private void f() { }");
        wrong(12, "private void f(java.util.List<Integer> a) { for (Integer b : a) { } }");
    }

    private void wrongDepths() throws IOException {
        wrong(8, "private int f(int a) { return f(a + 1); }");
        wrong(8, "private int f(int a) { return g(a); } private int g(int a) { return f(a); }");
        StringBuilder chain = new StringBuilder();
        for (int k = 0; k < 9; k++) {
            chain.append("private void f").append(k).append("() { ").append(k < 8 ? "f" + (k + 1) + "();" : "").append(" }");
        }
        wrong(11, chain.toString());
        right(chain.substring(chain.indexOf("private void f1")));
    }
}
