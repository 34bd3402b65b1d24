import java.nio.file.Files;
import java.nio.file.Path;
import java.util.List;

/** The class keeps to LANGUAGE.md, as far as that can be seen in its source; and what breaks a rule is found. */
public final class RulesTest {
    /** Members that break a rule each, the rule's number ahead of them. */
    private static final String[][] BREAKING = {
        {"1", "int seen;"},
        {"1", "int unseen() { return 0; }"},
        {"1", "public static class Seen { }"},
        {"1", "public int count(int what) { return 0; } private static int count() { return 0; }"},
        {"1", "public int look() { return 0; } private static final class In { int look() { return 0; } }"},
        {"2", "private final class In { }"},
        {"2", "private void m() { class In { } }"},
        {"2", "private void m() { Comparable<Integer> c = i -> 0; }"},
        {"2", "private void m() { Iterable<Integer> c = List.of(1)::iterator; }"},
        {"2", "private static abstract class In { } private final In in = new In() { };"},
        {"3", "private Object o;"},
        {"3", "private String[] s;"},
        {"3", "private int[][][] i;"},
        {"3", "private Long l;"},
        {"3", "private List<String[]> l;"},
        {"3", "private int m() { return new int[2].getClass().hashCode(); }"},
        {"4", "private int m(String s) { return s.hashCode(); }"},
        {"4", "private int m(int i) { return Math.addExact(i, 1); }"},
        {"4", "private void m(int i) { System.out.println(i); }"},
        {"4", "private int m() { return Integer.MAX_VALUE; }"},
        {"4", "private void m(int[] i) { java.util.Arrays.sort(i); }"},
        {"4", "private final Thread t = new Thread();"},
        {"4", "private final String s = new String(\"s\");"},
        {"4", "private static final String S = \"\\u00e9\";"},
        {"5", "private static int i;"},
        {"5", "private static final double D = 1.5;"},
        {"5", "private static final int[] A = new int[3];"},
        {"5", "private static final int[] A = {1, 2}; private void m() { A[0] = 3; }"},
        {"5", "private static final int[] A = {1, 2}; private void m() { A[0]++; }"},
        {"5", "private static final int[] A = {1, 2}; private void m() { A[0] += 3; }"},
        {"5", "private static final int[] A = {1, 2}; private int[] m() { return A; }"},
        {"5", "static { }"},
        {"6", "private void m() { throw new IllegalStateException(); }"},
        {"6", "private void m() { try { m(); } finally { } }"},
        {"6", "private void m() { assert true; }"},
        {"6", "private void m() { synchronized (this) { } }"},
        {"6", "private void m() throws Error { }"},
        {"6", "private boolean m(String a, String b) { return a == b; }"},
        {"6", "private boolean m(Integer a, Integer b) { return a != b; }"},
        {"6", "private String m(Comparable<String> c) { return (String) c; }"},
        {"8", "int open(int open) { return open == 0 ? 0 : open(open - 1); }"},
        {"8", "private int m(int open) { return open == 0 ? 0 : n(0); } private int n(int open) { return m(open + 1); }"},
        {"9", "private void m() { for (;;) { } }"},
        {"9", "private void m() { while (true) { } }"},
        {"9", "private void m() { do { } while (true); }"},
        {"10", "private String m(String a, int b) { return a + b; }"},
        {"10", "private String m(String a) { a += a; return a; }"},
        {"11", "private void m(int a, int b, int c, int d, int e, int f, int g, int h) { }"},
        {"11", "private void m() { " + "\n".repeat(60) + "}"},
        {"11", "private int a, b, c, d, e, f, g, h, i, j, k, l, m, n, o, p, q, r, s, t, u;"},
        {"11", "static class A { } static class B { } static class C { } static class D { } static class E { } "
                + "static class F { } static class G { } static class H { } static class I { } static class J { } "
                + "static class K { } static class L { }"},
        {"11", "private void a() { b(); } private void b() { c(); } private void c() { d(); } private void d() { e(); } "
                + "private void e() { f(); } private void f() { g(); } private void g() { h(); } private void h() { i(); } "
                + "private void i() { }"},
        {"12", "private int[] m() { return new int[1]; }"},
        {"12", "private StringBuilder m() { return new StringBuilder(); }"},
        {"12", "private static final class In { In(In other) { m(this); } void m(In in) { } }"}
    };

    /** What the rules allow. */
    private static final String[] KEEPING = {
        "private final ArrayList<Integer> l = new ArrayList<>(); private int m() { return l.size() > 0 ? l.get(0) : 0; }",
        "private static final int[] A = {1, 2}; private int m() { return -A[0] + A.length; }",
        "private static final class In { int at; In(int at) { this.at = at; } }",
        "private int m(int open) { return open > 5 ? 0 : n(open + 1); } private int n(int open) { return m(open); }",
        "private int m(int[] a, long b) { System.arraycopy(a, 0, a, 0, 1); return Math.max(a[0], (int) b); }",
        "private boolean m(String a, String b) { return a.equals(b) && a != null && a.charAt(0) == 'a'; }"
    };

    public static void main(String[] args) throws Exception {
        Due due = new Due();
        for (String[] row : BREAKING) {
            List<String> broken = Rules.broken(around(row[1]));
            boolean found = broken.stream().anyMatch(b -> b.startsWith("rule " + row[0] + ","));
            due.same("rule " + row[0] + " by " + row[1] + " in " + broken, "found", found ? "found" : "not found");
        }
        for (String member : KEEPING) due.same(member, "[]", Rules.broken(around(member)).toString());
        String source = Files.readString(Path.of("src/main/java/PullsToTheLeft.java"));
        for (String row : Rules.broken(source)) due.same("the class", "no rule broken", row);
        due.end();
    }

    private static String around(String member) {
        return "import java.util.ArrayList;\nimport java.util.List;\npublic final class PullsToTheLeft {\n" + member + "\n}\n";
    }
}
