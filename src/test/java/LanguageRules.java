import com.sun.source.tree.CompilationUnitTree;
import com.sun.source.util.JavacTask;
import com.sun.source.util.Trees;
import java.io.IOException;
import java.net.URI;
import java.nio.file.Files;
import java.nio.file.Path;
import java.util.List;
import java.util.Set;
import java.util.TreeSet;
import javax.tools.JavaCompiler;
import javax.tools.JavaFileObject;
import javax.tools.SimpleJavaFileObject;
import javax.tools.ToolProvider;

/** The source keeps to LANGUAGE.md, rule by rule, as the compiler reads it; and what looks at it sees each break. */
public final class LanguageRules {
    private static final Path SOURCE = Path.of("src/main/java/ManholeBirths.java");

    private static int wrong = 0;

    private static void must(String what, boolean is) {
        if (is) return;
        wrong++;
        System.out.println(what);
    }

    public static void main(String[] args) throws IOException {
        for (String line : broken(Files.readString(SOURCE))) must(line, false);
        breaksAreSeen();
        System.out.println(wrong == 0 ? "the source keeps to the rules" : wrong + " breaks");
        if (wrong != 0) System.exit(1);
    }

    /** A file of the class, held as a text. */
    private static final class Text extends SimpleJavaFileObject {
        private final String code;

        Text(String code) {
            super(URI.create("string:///ManholeBirths.java"), Kind.SOURCE);
            this.code = code;
        }

        @Override
        public CharSequence getCharContent(boolean ignoreErrors) {
            return code;
        }
    }

    /** What a source breaks, each with the rule's number ahead. */
    private static Set<String> broken(String code) throws IOException {
        JavaCompiler compiler = ToolProvider.getSystemJavaCompiler();
        JavaFileObject file = new Text(code);
        JavacTask task = (JavacTask) compiler.getTask(null, null, null, List.of("--release", "17"), null, List.of(file));
        SourceReader reader = new SourceReader(Trees.instance(task));
        Iterable<? extends CompilationUnitTree> units = task.parse();
        task.analyze();
        for (CompilationUnitTree unit : units) reader.read(unit);
        Set<String> broken = new TreeSet<>(reader.broken());
        if (!code.chars().allMatch(c -> c > 0 && c < 128)) broken.add("rule 4: signs are 1 to 127");
        return broken;
    }

    /** A small class with one thing in it that a rule forbids (or, for 0, with none). */
    private static void seen(int rule, String inside) throws IOException {
        Set<String> broken = broken("import java.util.*;\npublic final class ManholeBirths {\n" + inside + "\n}\n");
        boolean is = rule == 0 ? broken.isEmpty() : broken.stream().anyMatch(line -> line.startsWith("rule " + rule + ":"));
        must("rule " + rule + " is not looked at, or too hard: " + inside + " gave " + broken, is);
    }

    private static void breaksAreSeen() throws IOException {
        seen(0, "private final int[] row = new int[3]; public int a(int i) { return b(i) / 2; } private int b(int i) { return i; }");
        seen(1, "int a() { return 0; }");
        seen(1, "int a;");
        seen(1, "public static final class A {}");
        seen(1, "public int a() { return 0; } private int a(int b) { return b; }");
        seen(2, "private final class A {}");
        seen(2, "public int a() { class B {} return 0; }");
        seen(2, "private interface A { int a(); } private final A b = () -> 1;");
        seen(2, "private interface A { int a(int b); } private final A b = Math::abs;");
        seen(2, "private interface A {} private final A b = new A() {};");
        seen(3, "private Object a;");
        seen(3, "private Map<Integer, Integer> a;");
        seen(3, "private int[][][] a;");
        seen(4, "public int a() { return (int) System.nanoTime(); }");
        seen(4, "public int a() { return Math.addExact(1, 2); }");
        seen(4, "public int a(String b) { return b.hashCode(); }");
        seen(5, "private static int a = 1;");
        seen(5, "private static final StringBuilder A = null;");
        seen(5, "static { }");
        seen(6, "public int a() { throw new IllegalStateException(); }");
        seen(6, "public int a() { try { return 0; } finally { } }");
        seen(6, "public int a() { synchronized (this) { return 0; } }");
        seen(6, "public int a() { assert true; return 0; }");
        seen(6, "public boolean a(String b, String c) { return b == c; }");
        seen(6, "private static final class A { public String toString() { return null; } }");
        seen(6, "private static final class A {} private static final class B {} public int a(A b) { Object c = (Object) b; return 0; }");
        seen(7, "public int a(int b) { return 1 / b; }");
        seen(7, "public int a(int b) { return 1 % b; }");
        seen(7, "public int a(int b) { int c = 1; c /= b; return c; }");
        seen(7, "public int a() { return 1 / 0; }");
        seen(7, "private final int[] a = new int[1]; public int b(int c) { return a[c]; }");
        seen(7, "private final int[] a; public ManholeBirths(int b) { a = new int[b]; }");
        seen(8, "public int a(int b) { return c(b); } private int c(int b) { return b > 0 ? d(b) : 0; } private int d(int b) { return c(b - 1); }");
        seen(9, "public int a() { while (true) { } }");
        seen(9, "public int a() { for (;;) { } }");
        seen(9, "public int a() { do { } while (true); }");
        seen(10, "public int a(String b) { return (b + 1).length(); }");
        seen(11, "public int a(int b, int c, int d, int e, int f, int g, int h, int i) { return 0; }");
        seen(11, "public int a() {" + "\n;".repeat(60) + "\nreturn 0; }");
        seen(11, "private static final class A {}\n".replace("A", "A0") + many("private static final class A# {}\n", 1, 12));
        seen(11, many("private int a#;\n", 0, 21));
        seen(11, "public int a0() { return a1(); }" + many("private int a#() { return a~(); }\n", 1, 9) + "private int a9() { return 0; }");
        seen(12, "private static final class A {} public int a() { A b = new A(); return 0; }");
        seen(12, "public int a() { int[] b = new int[3]; return 0; }");
        seen(12, "private static final class A { A(ManholeBirths b) {} } private final A a = new A(this);");
    }

    /** A line once for each number, # being the number and ~ the one behind it. */
    private static String many(String line, int from, int to) {
        StringBuilder lines = new StringBuilder();
        for (int i = from; i < to; i++) lines.append(line.replace("#", "" + i).replace("~", "" + (i + 1)));
        return lines.toString();
    }
}
