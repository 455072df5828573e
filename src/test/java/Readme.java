import java.io.IOException;
import java.lang.reflect.Method;
import java.lang.reflect.Modifier;
import java.nio.file.Files;
import java.nio.file.Path;
import java.util.ArrayList;
import java.util.List;
import java.util.Set;
import java.util.TreeSet;
import java.util.regex.Matcher;
import java.util.regex.Pattern;
import java.util.stream.Stream;

/** README.md shows calls with their answers: they are what the class answers. It names the tests that there are. */
public final class Readme {
    private static final Path PAGE = Path.of("README.md"), TESTS = Path.of("src/test/java");
    private static final Pattern WRITTEN = Pattern.compile("for \\(char letter : \"(\\w+)\"\\.toCharArray\\(\\)\\) port\\.write\\(letter\\);");
    private static final Pattern CALL = Pattern.compile("port\\.(\\w+)(\\([^)]*\\)); *// (\\w+|-\\d+): \\S.*");

    private static int wrong = 0;
    private static final Set<String> shown = new TreeSet<>();

    private static void must(String what, boolean is) {
        if (is) return;
        wrong++;
        System.out.println("README.md: " + what);
    }

    public static void main(String[] args) throws IOException {
        String page = Files.readString(PAGE);
        String[] blocks = page.split("```java\n");
        for (int i = 1; i < blocks.length; i++) run(blocks[i].substring(0, blocks[i].indexOf("```")));
        for (Method m : ManholeBirths.class.getDeclaredMethods()) {
            if (Modifier.isPublic(m.getModifiers())) must(m.getName() + " is not shown", shown.contains(m.getName()));
        }
        names(page);
        wrong += Script.wrong;
        System.out.println(Script.asked + " answers asked for, " + wrong + " not as due");
        if (wrong != 0) System.exit(1);
    }

    /** Each line is a call with its answer, the writing of a net, a new object, or a remark. */
    private static void run(String block) {
        List<String> calls = new ArrayList<>();
        for (String line : block.split("\n")) {
            Matcher written = WRITTEN.matcher(line), call = CALL.matcher(line);
            if (written.matches()) {
                calls.add("type " + written.group(1));
                shown.add("write");
            } else if (call.matches()) {
                calls.add(call.group(1) + call.group(2) + " = " + call.group(3));
                shown.add(call.group(1));
            } else {
                boolean isNew = line.equals("ManholeBirths port = new ManholeBirths();");
                must("no answer is shown in: " + line, line.isBlank() || line.startsWith("// ") || isNew && calls.isEmpty());
            }
        }
        must("a block shows no call", !calls.isEmpty());
        new Script("README.md").run(calls.toArray(new String[0]));
    }

    /** The page names every file of the tests, and its list names no other test. */
    private static void names(String page) throws IOException {
        Set<String> there = new TreeSet<>();
        try (Stream<Path> files = Files.list(TESTS)) {
            files.forEach(file -> there.add(file.getFileName().toString().replace(".java", "")));
        }
        for (String name : there) must(name + " is not named", page.contains("`" + name + "`"));
        Matcher listed = Pattern.compile("(?m)^- `(\\w+)`: ").matcher(page);
        while (listed.find()) must(listed.group(1) + " is not there", there.contains(listed.group(1)));
        for (String path : new String[] {".ci/run", "src/main/java/ManholeBirths.java", "../shared/DOC.md", "../shared/tests"}) {
            must(path + " is not named or not there", page.contains(path) && Files.exists(Path.of(path)));
        }
    }
}
