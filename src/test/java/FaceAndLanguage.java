import java.io.IOException;
import java.lang.reflect.Constructor;
import java.lang.reflect.Field;
import java.lang.reflect.Method;
import java.lang.reflect.Modifier;
import java.nio.file.Files;
import java.nio.file.Path;
import java.util.Arrays;
import java.util.Map;
import java.util.Set;
import java.util.TreeMap;
import java.util.TreeSet;
import java.util.regex.Matcher;
import java.util.regex.Pattern;
import java.util.stream.Collectors;

/** The public face is the document's and no more, and the source keeps to the rules that can be seen in it. */
public final class FaceAndLanguage {
    private static final String SOURCE = "src/main/java/ManholeBirths.java";
    private static final String[] FACE = {
        "int write(int)", "int wipe()", "int fault()", "int net()", "int joint(int, int)", "int pipe(int, int)",
        "int walker(int, int)", "int step()", "int shut(int)", "int seal(int)", "int call(int)", "int undo()",
        "int ahead(int, int)", "int comes(int, int)", "int way(int, int)", "int mend(int)", "int watch()",
        "int judge(int, int)", "int hear(int, int, int)", "int unhear()", "int turning(int)",
        "int share(int, boolean)", "int rests(int, int, int)", "int flood(int, int, int, boolean)",
        "long seed(long)", "int years(int)", "int keep(int)", "int again(int)", "int count(int)",
    };
    private static final String[] FORBIDDEN = {
        "throw", "throws", "try", "catch", "finally", "synchronized", "assert", "var", "volatile", "transient", "native",
        "import static", "->", "::", "Random", "Thread", "Object", "hashCode", "double", "float", "Exact", "protected",
    };
    private static int wrong = 0;

    private static void must(String what, boolean is) {
        if (is) return;
        wrong++;
        System.out.println("not so: " + what);
    }

    public static void main(String[] args) throws IOException {
        methods();
        constants();
        members();
        source(Files.readString(Path.of(SOURCE)));
        System.out.println(wrong == 0 ? "face and language are as told" : wrong + " rules are broken");
        if (wrong != 0) System.exit(1);
    }

    private static void methods() {
        Set<String> found = new TreeSet<>();
        Set<String> names = new TreeSet<>();
        for (Method m : ManholeBirths.class.getDeclaredMethods()) {
            if (!Modifier.isPublic(m.getModifiers())) continue;
            found.add(m.getReturnType() + " " + m.getName() + Arrays.stream(m.getParameterTypes())
                .map(Class::getName).collect(Collectors.joining(", ", "(", ")")));
            names.add(m.getName());
        }
        must("the methods are " + found, found.equals(new TreeSet<>(Arrays.asList(FACE))));
        for (Class<?> c : withNested()) {
            for (Method m : c.getDeclaredMethods()) {
                must(m + " takes at most seven", m.getParameterCount() <= 7);
                boolean isFace = c == ManholeBirths.class && Modifier.isPublic(m.getModifiers());
                must(m + " bears no public one's name", isFace || !names.contains(m.getName()));
            }
        }
    }

    private static void constants() {
        Map<String, Integer> want = new TreeMap<>(Map.of("UNKNOWN", -1, "OUTSIDE", -2, "STATE", -3, "FULL", -4, "NONE", -9));
        Map<String, Integer> found = new TreeMap<>();
        for (Field f : ManholeBirths.class.getFields()) {
            must(f + " is a constant", Modifier.isStatic(f.getModifiers()) && Modifier.isFinal(f.getModifiers()));
            try {
                found.put(f.getName(), f.getInt(null));
            } catch (IllegalAccessException e) {
                must(f + " can be read", false);
            }
        }
        must("the constants are " + found, found.equals(want));
    }

    private static void members() {
        must("public and final", ManholeBirths.class.getModifiers() == (Modifier.PUBLIC | Modifier.FINAL));
        must("no package", ManholeBirths.class.getPackageName().isEmpty());
        Constructor<?>[] made = ManholeBirths.class.getDeclaredConstructors();
        must("one public constructor", made.length == 1 && Modifier.isPublic(made[0].getModifiers())
            && made[0].getParameterCount() == 0);
        for (Method m : ManholeBirths.class.getDeclaredMethods()) {
            must(m + " is public or private", Modifier.isPublic(m.getModifiers()) || Modifier.isPrivate(m.getModifiers()));
        }
        for (Class<?> c : withNested()) {
            must(c + " is static or the face", c == ManholeBirths.class || Modifier.isStatic(c.getModifiers()));
            int fields = 0;
            for (Field f : c.getDeclaredFields()) {
                if (!Modifier.isStatic(f.getModifiers())) fields++;
                else must(f + " is final", Modifier.isFinal(f.getModifiers()));
                must(f + " is public or private", c != ManholeBirths.class
                    || Modifier.isPublic(f.getModifiers()) || Modifier.isPrivate(f.getModifiers()));
            }
            must(c + " has some twenty fields", fields <= 20);
        }
        must("some twelve classes", withNested().length <= 12);
    }

    private static Class<?>[] withNested() {
        Class<?>[] nested = ManholeBirths.class.getDeclaredClasses();
        Class<?>[] all = Arrays.copyOf(nested, nested.length + 1);
        all[nested.length] = ManholeBirths.class;
        return all;
    }

    private static void source(String text) {
        String code = text.replaceAll("(?s)/\\*.*?\\*/", "").replaceAll("//[^\n]*", "");
        for (String word : FORBIDDEN) {
            String edge = Character.isLetter(word.charAt(0)) ? "\\b" : "";
            must("there is no " + word, !Pattern.compile(edge + Pattern.quote(word) + edge).matcher(code).find());
        }
        must("signs are 1 to 127", text.chars().allMatch(c -> c > 0 && c < 128));
        Matcher imports = Pattern.compile("import ([^;]+);").matcher(code);
        while (imports.find()) must("import " + imports.group(1), imports.group(1).equals("java.util.Arrays"));
        Matcher library = Pattern.compile("\\b(System|Arrays|Math|Integer|Long)\\.(\\w+)").matcher(code);
        Set<String> allowed = Set.of("System.arraycopy", "Arrays.copyOf", "Arrays.copyOfRange", "Arrays.fill",
            "Math.min", "Math.max", "Math.abs", "Integer.bitCount");
        while (library.find()) must("library " + library.group(), allowed.contains(library.group()));
        must("while loops have no counter", !Pattern.compile("\\b(while|do)\\b").matcher(code).find());
        // Rows are looked into by number in few places, each behind a test.
        Set<String> places = new TreeSet<>(Set.of("row[i]", "moments[i]", "moments[i + 1]", "moments[last]"));
        Matcher looks = Pattern.compile("\\b(?!int|Moment)\\w+\\[[^\\]]+\\]").matcher(code);
        while (looks.find()) must("untested look " + looks.group(), places.contains(looks.group()));
        methodsAreShort(code);
    }

    private static void methodsAreShort(String code) {
        int begun = -1, line = 0;
        for (String row : code.split("\n")) {
            line++;
            if (row.matches("( {4}| {8})(public|private|static|void|int|long|boolean|Moment)\\b.*\\) \\{")) begun = line;
            if (row.matches("( {4}| {8})\\}")) {
                must("the method that ends in line " + line + " is short", begun < 0 || line - begun < 60);
                begun = -1;
            }
        }
    }
}
