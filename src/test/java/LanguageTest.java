import java.io.IOException;
import java.nio.file.Files;
import java.nio.file.Path;
import java.util.List;

/** LANGUAGE.md: the class keeps to it, and small files that do not are found. */
public final class LanguageTest {
    private static void keeps(String what, String source) throws IOException {
        List<String> broken = LanguageRules.brokenBy(source);
        for (String one : broken) {
            System.out.println(what + ": " + one);
        }
        Check.due(what + " breaks how many rules", broken.size(), 0);
    }

    /** A look that finds nothing anywhere would be worth nothing: each rule is broken once. */
    private static void breaks(int rule, String members) throws IOException {
        List<String> broken = LanguageRules.brokenBy(inClass(members));
        boolean found = broken.stream().anyMatch(one -> one.startsWith("rule " + rule + ":"));
        boolean compiles = broken.stream().noneMatch(one -> one.startsWith("does not compile"));
        Check.due("rule " + rule + " is broken by " + members + ", found " + broken, found && compiles ? 1 : 0, 1);
    }

    private static String chain(int methods) {
        StringBuilder text = new StringBuilder();
        for (int i = 1; i < methods; i++) {
            text.append("int m").append(i).append("() { return m").append(i + 1).append("(); }\n");
        }
        return text.append("int m").append(methods).append("() { return 1; }\n").toString();
    }

    private static String rising(String ahead, String behind, int many) {
        StringBuilder text = new StringBuilder();
        for (int i = 0; i < many; i++) {
            text.append(ahead).append(i).append(behind);
        }
        return text.toString();
    }

    private static String inClass(String members) {
        return "public final class LaterJury {\n" + members + "\n}\n";
    }

    private static void smallFiles() throws IOException {
        keeps("a chain of eight", inClass(chain(8)));
        keeps("an array made by a constructor", inClass("int[] a = new int[3]; LaterJury() { a = new int[4]; }"));
        keeps("sixty lines", inClass("int a() {\n" + "\n".repeat(57) + "return 1;\n}"));
        keeps("seven taken", inClass("int a(int b, int c, int d, int e, int f, int g, int h) { return b; }"));
        keeps("twelve classes", inClass(rising("private static final class A", " { }\n", 11)));
        keeps("twenty fields", inClass(rising("int a", ";\n", 20)));
        keeps("a written out array", inClass("private static final int[] A = {1, 2};"));
        breaks(1, "} class Other {");
        breaks(2, "class Inner { }");
        breaks(2, "Runnable a() { return () -> { }; }");
        breaks(2, "Runnable a() { return this::notify; }");
        breaks(2, "Object a = new Object() { };");
        breaks(3, "double a = 1;");
        breaks(3, "int[][][] a;");
        breaks(3, "int a(Object b) { return 1; }");
        breaks(4, "int a(int b) { return Math.addExact(b, 1); }");
        breaks(4, "long a() { return System.nanoTime(); }");
        breaks(5, "static int a = 1;");
        breaks(5, "static final int[] A = new int[3];");
        breaks(5, "static { }");
        breaks(6, "int a() { throw null; }");
        breaks(6, "int a() { try { return 1; } finally { } }");
        breaks(6, "int a() { assert true; return 1; }");
        breaks(6, "int a() { synchronized (this) { return 1; } }");
        breaks(8, "int a() { return b(); } int b() { return a(); }");
        breaks(9, "int a() { while (true) { } }");
        breaks(9, "int a() { for (;;) { } }");
        breaks(9, "int a() { do { } while (true); }");
        breaks(10, "String a(String b) { return b + 1; }");
        breaks(10, "int a(String b) { b += b; return 1; }");
        breaks(11, chain(9));
        breaks(11, "int a(int b, int c, int d, int e, int f, int g, int h, int i) { return 1; }");
        breaks(11, "int a() {\n" + "\n".repeat(58) + "return 1;\n}");
        breaks(11, rising("private static final class A", " { }\n", 12));
        breaks(11, rising("int a", ";\n", 21));
        breaks(12, "int a() { int[] b = new int[3]; return b.length; }");
        breaks(12, "LaterJury a() { return new LaterJury(); }");
    }

    public static void main(String[] args) throws IOException {
        keeps("LaterJury.java", Files.readString(Path.of("src/main/java/LaterJury.java")));
        smallFiles();
        Check.end();
    }
}
