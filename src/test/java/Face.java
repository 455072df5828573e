import java.io.IOException;
import java.lang.reflect.Constructor;
import java.lang.reflect.Field;
import java.lang.reflect.Method;
import java.lang.reflect.Modifier;
import java.nio.file.Files;
import java.nio.file.Path;
import java.util.ArrayList;
import java.util.Arrays;
import java.util.List;
import java.util.Map;
import java.util.Set;
import java.util.TreeMap;
import java.util.TreeSet;
import java.util.regex.Matcher;
import java.util.regex.Pattern;
import java.util.stream.Collectors;

/** The class shows what the document's "public face" shows, as it is told there, and no more. */
public final class Face {
    private static final Path DOCUMENT = Path.of("../shared/DOC.md"), SOURCE = Path.of("src/main/java/ManholeBirths.java");
    private static final int METHODS = 29, PROMISES = 30, GROUPS = 6;
    private static int wrong = 0;

    private static void must(String what, boolean is) {
        if (is) return;
        wrong++;
        System.out.println("not so: " + what);
    }

    public static void main(String[] args) throws IOException {
        String document = Files.readString(DOCUMENT), source = Files.readString(SOURCE);
        String face = found(document, "(?s)```java\n(.*?)```").get(0);
        methods(face, source);
        constants(face);
        members(face);
        groups(document, source);
        promises(document);
        System.out.println(wrong == 0 ? "the face is as told" : "the face is otherwise in " + wrong);
        if (wrong != 0) System.exit(1);
    }

    private static List<String> found(String text, String pattern) {
        List<String> found = new ArrayList<>();
        Matcher m = Pattern.compile(pattern).matcher(text);
        while (m.find()) found.add(m.group(1));
        return found;
    }

    private static String plain(String signature) {
        return signature.replaceAll("(int|long|boolean) \\w+(?=[,)])", "$1");
    }

    private static void methods(String face, String source) {
        List<String> told = found(face, "public ((?:int|long) \\w+\\([^)]*\\));");
        must("the document tells " + METHODS + " methods, not " + told.size(), told.size() == METHODS);
        Set<String> due = told.stream().map(Face::plain).collect(Collectors.toCollection(TreeSet::new));
        Set<String> shown = new TreeSet<>();
        for (Method m : ManholeBirths.class.getDeclaredMethods()) {
            if (!Modifier.isPublic(m.getModifiers())) continue;
            must(m + " is an object's own, and throws nothing", m.getModifiers() == Modifier.PUBLIC
                && m.getExceptionTypes().length == 0);
            shown.add(m.getReturnType() + " " + m.getName() + Arrays.stream(m.getParameterTypes())
                .map(Class::getName).collect(Collectors.joining(", ", "(", ")")));
        }
        must("the methods are " + shown, shown.equals(due));
        int place = 0;
        for (String signature : told) {
            int next = source.indexOf("    public " + signature + " {\n", place);
            must("the source has " + signature + ", in the document's order", next >= 0);
            place = Math.max(place, next);
        }
    }

    private static void constants(String face) {
        Map<String, Integer> due = new TreeMap<>();
        for (String told : found(face, "([A-Z]+ = -?\\d+)")) due.put(told.split(" = ")[0], Integer.valueOf(told.split(" = ")[1]));
        must("the document tells five constants, not " + due, due.size() == 5);
        Map<String, Integer> shown = new TreeMap<>();
        for (Field f : ManholeBirths.class.getFields()) {
            must(f + " is an int and a constant", f.getType() == int.class
                && f.getModifiers() == (Modifier.PUBLIC | Modifier.STATIC | Modifier.FINAL));
            try {
                shown.put(f.getName(), f.getInt(null));
            } catch (IllegalAccessException e) {
                must(f + " can be read", false);
            }
        }
        must("the constants are " + shown, shown.equals(due));
    }

    private static void members(String face) {
        must("the document tells public final class ManholeBirths", face.startsWith("public final class ManholeBirths {"));
        must("it is public and final", ManholeBirths.class.getModifiers() == (Modifier.PUBLIC | Modifier.FINAL));
        must("it has no package", ManholeBirths.class.getPackageName().isEmpty());
        must("it is made of nothing else", ManholeBirths.class.getSuperclass() == Object.class
            && ManholeBirths.class.getInterfaces().length == 0);
        Constructor<?>[] made = ManholeBirths.class.getDeclaredConstructors();
        must("it has one public constructor", made.length == 1 && Modifier.isPublic(made[0].getModifiers())
            && made[0].getParameterCount() == 0 && made[0].getExceptionTypes().length == 0);
        for (Method m : ManholeBirths.class.getDeclaredMethods()) {
            must(m + " is public or private", (m.getModifiers() & (Modifier.PUBLIC | Modifier.PRIVATE)) != 0);
        }
        for (Field f : ManholeBirths.class.getDeclaredFields()) {
            must(f + " is public or private", (f.getModifiers() & (Modifier.PUBLIC | Modifier.PRIVATE)) != 0);
        }
    }

    /** What the interface says ahead of some calls stands in the source ahead of just these. */
    private static void groups(String document, String source) {
        List<String> lines = found(document, "(?m)^(Ahead of the calls .*)$");
        must("the document tells " + GROUPS + " groups, not " + lines.size(), lines.size() == GROUPS);
        for (String line : lines) {
            String title = found(line, "says: (---- .*)\\.$").get(0);
            int begin = source.indexOf("    // " + title + "\n");
            must("the source says " + title, begin >= 0);
            if (begin < 0) continue;
            int end = source.indexOf("    // ---- ", begin + 1);
            String group = source.substring(begin, end < 0 ? source.length() : end);
            List<String> due = found(line, "`(\\w+)`"), shown = found(group, "(?m)^    public \\w+ (\\w+)\\(");
            must("behind " + title + " come " + due + ", not " + shown, due.equals(shown));
        }
    }

    /** Each promise tells a call as the face does, and there is none besides. */
    private static void promises(String document) {
        List<String> numbers = found(document, "(?m)^## Promise (\\d+): ");
        must("the document has " + PROMISES + " promises", numbers.size() == PROMISES);
        Set<String> told = new TreeSet<>(found(document, "(?m)^`((?:int|long) [^`]*)`: "));
        must("each promise but the first tells a call of the face",
            told.equals(new TreeSet<>(found(document, "    public ((?:int|long) \\w+\\([^)]*\\));"))));
    }
}
