import java.io.IOException;
import java.nio.file.Files;
import java.nio.file.Path;
import java.util.Set;

/** The class keeps to LANGUAGE.md, as far as its tree shows; and the look at it is not blind. */
public final class LanguageTest {
    private static final Due due = new Due("LanguageTest");

    public static void main(String[] args) throws IOException {
        String source = Files.readString(Path.of("src", "main", "java", "SetWorkshop.java"));
        Set<String> faults = Language.faults(source);
        due.is("faults " + faults, faults.isEmpty(), true);
        blind();
        due.end();
    }

    private static void blind() {
        breaks("", "");
        breaks("rule 2: a lambda", "Runnable r = () -> { };");
        breaks("rule 2: a method reference", "Runnable r = Thread::yield;");
        breaks("rule 3: double", "double d;");
        breaks("rule 3: int[][]", "int[][] a;");
        breaks("rule 4: a sign", "// \u00e9");
        breaks("rule 4: call of Math.addExact", "int f() { return Math.addExact(1, 2); }");
        breaks("rule 4: call of System.currentTimeMillis", "long f() { return System.currentTimeMillis(); }");
        breaks("rule 4: new Thread", "void f() { new Thread(); }");
        breaks("rule 5: static", "static int n;");
        breaks("rule 5: static", "static final Integer[] N = {1};");
        breaks("rule 5: an initialiser block", "static { }");
        breaks("rule 6: throw", "void f() { throw new Error(); }");
        breaks("rule 6: a throw in a constructor", "SetWorkshop() { throw new RuntimeException(); }");
        breaks("rule 6: finally", "void f() { try { f(); } finally { } }");
        breaks("rule 6: a catch", "void f() { try { f(); } catch (RuntimeException e) { } }");
        breaks("rule 6: synchronized", "void f() { synchronized (this) { } }");
        breaks("rule 6: assert", "void f() { assert true; }");
        breaks("rule 6: a cast", "String f(Object o) { return (String) o; }");
        breaks("rule 7: a divisor", "int f(int a, int b) { return a / b; }");
        breaks("rule 7: a divisor", "int f(int a, int b) { a %= b; return a; }");
        breaks("", "int f(int a, int b) { if (b <= 0) { return 0; } return a / b; }");
        breaks("rule 8: f() comes back", "void f() { g(); } void g() { f(); }");
        breaks("rule 10: texts", "String f(String s) { return s + 1; }");
        breaks("rule 10: texts", "boolean f(String s, String t) { return s == t; }");
        breaks("rule 11: f(", "void f(int a, int b, int c, int d, int e, int g, int h, int i) { }");
        breaks("", "void f(int a, int b, int c, int d, int e, int g, int h) { }");
        breaks("rule 11: f() is too long", "void f() {" + "\n;".repeat(59) + "\n}");
        breaks("", "void f() {" + "\n;".repeat(58) + "\n}");
        breaks("rule 11: SetWorkshop has 21 fields", many(21, "int f%d;"));
        breaks("", many(20, "int f%d;"));
        breaks("rule 11: 13 classes", many(12, "static class C%d { }"));
        breaks("", many(11, "static class C%d { }"));
        breaks("rule 11: f1() goes too deep", chain(9));
        breaks("", chain(8));
    }

    private static String many(int count, String member) {
        StringBuilder s = new StringBuilder();
        for (int i = 0; i < count; i++) {
            s.append(String.format(member, i));
        }
        return s.toString();
    }

    /** Methods of which each calls the next one. */
    private static String chain(int length) {
        StringBuilder s = new StringBuilder();
        for (int i = 1; i < length; i++) {
            s.append(String.format("void f%d() { f%d(); }", i, i + 1));
        }
        return s.append(String.format("void f%d() { }", length)).toString();
    }

    /** A class with these members has this fault, or none if the fault is empty. */
    private static void breaks(String fault, String members) {
        Set<String> faults = Language.faults("public final class SetWorkshop {" + members + "\n}\n");
        boolean told = fault.isEmpty() ? faults.isEmpty()
            : faults.stream().anyMatch(f -> f.startsWith(fault));
        due.is("'" + fault + "' of: " + members + " " + faults, told, true);
    }
}
