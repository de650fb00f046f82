import java.io.IOException;
import java.nio.file.Files;
import java.nio.file.Path;
import java.util.List;

/** The program keeps to ../shared/LANGUAGE.md, as far as its tree shows. Run it from the project's root. */
public final class LanguageTest {
    public static void main(String[] args) throws IOException {
        List<String> faults = Language.faults(Files.readString(Path.of("src/main/java/Saltwedge.java")));
        Check.same("the program", "[]", faults.toString());
        // what looks on must see: each of these leaves one rule
        Check.same("a program without a fault", "[]", faultsOf("private int a(int b) { return b / 2; }"));
        broken(1, "public int b;");
        broken(1, "int a() { return 1; }");
        broken(1, "public int a(int b) { return b; } private int a() { return 1; }");
        broken(2, "class Inner { }");
        broken(2, "private interface F { int f(); } private int a() { F f = () -> 1; return f.f(); }");
        broken(3, "private float[][] a;");
        broken(3, "private java.util.Map<String, String> a;");
        broken(4, "private double a(double b) { return Math.sqrt(b); }");
        broken(4, "private int a(int b) { return Math.addExact(b, b); }");
        broken(5, "private static int a = 1;");
        broken(5, "private static final int A; static { A = 3; }");
        broken(6, "public Saltwedge() { throw new IllegalStateException(); }");
        broken(6, "private int a(String b) { throw new IllegalStateException(b); }");
        broken(6, "private int a() { throw new NullPointerException(); }");
        broken(6, "private int a() { try { return b(); } catch (RuntimeException e) { return 1; } }"
                + " private int b() { return 2; }");
        broken(7, "private int a(int b) { return 7 / b; }");
        broken(7, "private int a(int b, int c) { b %= c; return b; }");
        broken(7, "private static final int A = 0; private int a(int b) { return b / A; }");
        broken(7, "private boolean a(Saltwedge b) { return b == null; }");
        broken(8, "private int a(int b) { return b > 3 ? b : a(b + 1); }");
        broken(8, "private int a(int b) { return b > 3 ? b : c(b + 1); } private int c(int b) { return a(b); }");
        broken(9, "private int a(int b) { while (b > 0) { b--; } return b; }");
        broken(9, "private int a(int b) { for (;;) { if (b++ > 9) { return b; } } }");
        broken(10, "private int a(String b) { return (b + b).length(); }");
        broken(11, "private int a(int b, int c, int d, int e, int f, int g, int h, int i) { return b; }");
        broken(11, "private int a(int b) { " + "b++;\n".repeat(70) + " return b; }");
        broken(11, chain(9));
        Check.same("calls that go eight deep", "[]", faultsOf(chain(8)));
        broken(11, "private static final class C { " + fields(21) + " }");
        Check.same("a class of 20 fields", "[]", faultsOf("private static final class C { " + fields(20) + " }"));
        broken(12, "private int[] a() { return new int[3]; }");
        broken(13, "private long a() { return System.nanoTime(); }");
        Check.end();
    }

    private static String faultsOf(String members) throws IOException {
        return Language.faults("public final class Saltwedge { " + members + " }").toString();
    }

    private static void broken(int rule, String members) throws IOException {
        Check.dueTrue("rule " + rule + " is seen to be left by: " + members,
                faultsOf(members).contains("rule " + rule + ":") && !faultsOf(members).contains("rule 0:"));
    }

    /** So many methods, each of which calls the next one. */
    private static String chain(int length) {
        StringBuilder members = new StringBuilder("private int m1() { return 1; } ");
        for (int i = 2; i <= length; i++) {
            members.append("private int m").append(i).append("() { return m").append(i - 1).append("(); } ");
        }
        return members.toString();
    }

    private static String fields(int count) {
        StringBuilder members = new StringBuilder();
        for (int i = 0; i < count; i++) {
            members.append("int f").append(i).append("; ");
        }
        return members.toString();
    }
}
