import java.io.IOException;
import java.nio.file.Files;
import java.nio.file.Path;
import java.util.Set;

/** LANGUAGE.md's rules, as far as a reader of the source can see them; and that each break of one is seen. */
public final class RulesTest {
    private static final String FAULT = "    public int fault() {\n        return faultPlace;\n    }\n";

    private static String source = "";

    private RulesTest() {
    }

    public static void main(String[] args) throws IOException {
        source = Files.readString(Path.of("src/main/java/CascadeBus.java"));
        Set<String> broken = Rules.brokenBy(source);
        for (String rule : broken) {
            System.out.println("broken: rule " + rule);
        }
        Check.due("rules that are broken", broken.size(), 0);
        Check.due("the place for breaks is there", source.contains(FAULT), true);
        breaksOfShape();
        breaksOfWords();
        breaksOfSize();
        Check.end("RulesTest");
    }

    private static void breaksOfShape() throws IOException {
        seen("1", "class NotStatic { }\n");
        seen("1", "public static final class Open { }\n");
        seen("3", "private final int[][][] deep = new int[1][1][1];\n");
        seen("3", "private final java.util.Map<String, String> map = null;\n");
        seen("4", "private static long now() { return System.nanoTime(); }\n");
        seen("4", "private static int exact(int a) { return Math.addExact(a, 1); }\n");
        seen("4", "private static Object made() { return new Object(); }\n");
        seen("5", "private static int shared = 0;\n");
        seen("5", "private static final State KEPT = new State();\n");
        seen("5", "static { }\n");
    }

    private static void breaksOfWords() throws IOException {
        seen("2", "private static void run() { Runnable r = () -> { }; }\n");
        seen("2", "private static void run() { Runnable r = RUN::length; }\nprivate static final String RUN = \"\";\n");
        seen("6", "private int caught() { try { return fault(); } catch (RuntimeException e) { return 0; } }\n");
        seen("6", "private static void ask(boolean b) { assert b; }\n");
        seen("6", "private void hold() { synchronized (this) { taped = 0; } }\n");
        seen("6", "private static void fail() { throw new java.util.InputMismatchException(); }\n");
        seen("6", "private static void fail(String s) { throw new RuntimeException(s); }\n");
        seen("6", "private static boolean like(String a, String b) { return a == b; }\n");
        seen("7", "private static int share(int a, int b) { return a / b; }\n");
        seen("9", "private static void turn() { for (;;) { } }\n");
        seen("9", "private static void turn() { while (true) { } }\n");
        seen("10", "private static String join(String a, int b) { return a + b; }\n");
        seen("12", "private static void make() { for (int k = 0; k < 9; k++) { State s = new State(); } }\n");
        seen("12", "private static void make() { for (int k = 0; k < 9; k++) { int[] s = new int[k]; } }\n");
    }

    private static void breaksOfSize() throws IOException {
        seen("11", "private static int sum(int a, int b, int c, int d, int e, int f, int g, int h) { return a; }\n");
        seen("11", "private static int same(int a) { return a > 0 ? same(a - 1) : 0; }\n");
        seen("11", "private static void wide() {" + "\n".repeat(61) + "}\n");
        StringBuilder fields = new StringBuilder();
        StringBuilder chain = new StringBuilder("private static void step8() { }\n");
        for (int k = 0; k < 8; k++) {
            fields.append("private int one").append(k).append(" = 0;\n");
            chain.append("private static void step").append(k).append("() { step").append(k + 1).append("(); }\n");
        }
        seen("11", fields.toString());
        seen("11", chain.toString());
        seen("11", "private static final class OneMore { }\n");
    }

    /** The class with one more member, ahead of fault(). */
    private static void seen(String rule, String member) throws IOException {
        boolean told = false;
        for (String broken : Rules.brokenBy(source.replace(FAULT, "    " + member + FAULT))) {
            told |= broken.startsWith(rule + ":");
        }
        Check.due("a break of rule " + rule + " is seen: " + member.trim(), told, true);
    }
}
