import java.io.IOException;
import java.nio.file.Files;
import java.nio.file.Path;
import java.util.List;

/** The program breaks no rule that LanguageRules tells, and that tells each of them; run from the project's folder. */
public final class LanguageRulesTest {
    private static final Path SOURCE = Path.of("src/main/java/Marginalia.java");

    /** Members that are fine, each in a class of its own. */
    private static final String[] FINE = {
        "",
        "private static final int MOST = 3; private static final String WORDS = \"words\";",
        "private static final int[] STEPS = {1, 2}; private final int[][] rows = new int[2][3];",
        "private void refuse() { throw new IllegalStateException(\"it is refused\"); }",
        "private static final class Inside { private int n; int n() { return n; } } private Inside[] all;",
        "private int least(int a, int b) { return Math.min(a, b); }",
        "private void copy(int[] a, int[] b) { System.arraycopy(a, 0, b, 0, 1); int[] c = a.clone(); }",
        "private String text(int n) { return new StringBuilder().append(\"n\").append(n).toString(); }",
        "private final java.util.ArrayList<Integer> list = new java.util.ArrayList<>();",
        "private double half(int n) { return (double) n / 2; }",
    };

    /** A rule's number, and members that break it. */
    private static final String[][] BROKEN = {
        {"1", "int open;"},
        {"1", "void open() { }"},
        {"1", "protected int open;"},
        {"1", "public int ask() { return 1; } private int ask(int n) { return n; }"},
        {"1", "public static final class Inside { }"},
        {"1", "private final class Inside { }"},
        {"2", "private Runnable run() { return () -> { }; }"},
        {"2", "private Runnable run() { return this::go; } private void go() { }"},
        {"3", "private int[][][] rows;"},
        {"3", "private boolean[][] rows;"},
        {"3", "private String[] words;"},
        {"3", "private Object any;"},
        {"3", "private java.util.HashMap<Integer, Integer> map;"},
        {"3", "private double rest(double a) { return a % 2; }"},
        {"4", "private double root(double a) { return Math.sqrt(a); }"},
        {"4", "private int sum(int a, int b) { return Math.addExact(a, b); }"},
        {"4", "private void show() { System.out.println(1); }"},
        {"4", "private String trim(String words) { return words.trim(); }"},
        {"4", "private final String words = \"\\u00e9\";"},
        {"4", "private void make() { new java.util.HashMap<Integer, Integer>(); }"},
        {"5", "private static int count;"},
        {"5", "private static final int[] ROWS = new int[3];"},
        {"5", "private static final StringBuilder TEXT = new StringBuilder();"},
        {"5", "static { }"},
        {"6", "private void refuse() { throw new IllegalCallerException(); }"},
        {"6", "private void refuse(String words) { throw new RuntimeException(words); }"},
        {"6", "public Marginalia() { throw new RuntimeException(); }"},
        {"6", "private void go() { try { go2(); } finally { } } private void go2() { }"},
        {"6", "private synchronized void go() { }"},
        {"6", "private void go() { synchronized (this) { } }"},
        {"6", "private void go(int n) { assert n > 0; }"},
        {"6", "private boolean same(String a, String b) { return a == b; }"},
        {"6", "private boolean same(Integer a, Integer b) { return a == b; }"},
        {"6", "public String toString() { return \"\"; }"},
        {"6", "private static final class Own extends RuntimeException { }"},
        {"8", "private int down(int n) { return n == 0 ? 0 : down(n - 1); }"},
        {"8", "private int a(int n) { return b(n); } private int b(int n) { return n == 0 ? 0 : a(n - 1); }"},
        {"9", "private void go() { while (true) { } }"},
        {"9", "private void go() { for (;;) { } }"},
        {"10", "private String join(String a, int n) { return a + n; }"},
        {"10", "private String join(String a, int n) { a += n; return a; }"},
        {"11", "private void go(int a, int b, int c, int d, int e, int f, int g, int h) { }"},
        {"11", "private int a, b, c, d, e, f, g, h, i, j, k, l, m, n, o, p, q, r, s, t, u;"},
        {"11", "private void a() { b(); } private void b() { c(); } private void c() { d(); } private void d() { e(); } "
            + "private void e() { f(); } private void f() { g(); } private void g() { h(); } private void h() { i(); } "
            + "private void i() { }"},
        {"11", "private void go() { " + "\n".repeat(60) + " }"},
        {"12", "private abstract static class Own { Own() { go(); } abstract void go(); }"},
        {"13", "private long time() { return System.nanoTime(); }"},
    };

    public static void main(String[] args) throws IOException {
        Check check = new Check();
        check.same("the program's breaches", List.of(), LanguageRules.breachesOf(Files.readString(SOURCE)));
        for (String members : FINE) {
            check.same(members, List.of(), LanguageRules.breachesOf(with(members)));
        }
        for (String[] broken : BROKEN) {
            List<String> breaches = LanguageRules.breachesOf(with(broken[1]));
            // The thirteenth rule is held by the fourth: no clock is of its library.
            String due = broken[0].equals("13") ? "rule 4:" : "rule " + broken[0] + ":";
            check.is(due + " is broken by " + broken[1] + ", told are " + breaches,
                breaches.stream().anyMatch(breach -> breach.startsWith(due)));
        }
        classesAndFiles(check);
        check.finish();
    }

    private static String with(String members) {
        return "public final class Marginalia { " + members + " }";
    }

    private static void classesAndFiles(Check check) throws IOException {
        StringBuilder many = new StringBuilder();
        for (int i = 0; i < 12; i++) {
            many.append("private static final class Own").append(i).append(" { } ");
        }
        told(check, "rule 11:", with(many.toString()));
        told(check, "rule 1:", "package notes; " + with(""));
        told(check, "rule 1:", with("") + " class Beside { }");
        told(check, "rule 1:", "public class Marginalia { }");
    }

    private static void told(Check check, String due, String source) throws IOException {
        List<String> breaches = LanguageRules.breachesOf(source);
        check.is(due + " is broken by " + source + ", told are " + breaches,
            breaches.stream().anyMatch(breach -> breach.startsWith(due)));
    }
}
