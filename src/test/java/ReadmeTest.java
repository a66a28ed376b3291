import java.io.IOException;
import java.lang.reflect.InvocationTargetException;
import java.lang.reflect.Method;
import java.lang.reflect.Modifier;
import java.net.URL;
import java.net.URLClassLoader;
import java.nio.file.Files;
import java.nio.file.Path;
import java.util.ArrayList;
import java.util.List;
import java.util.regex.Matcher;
import java.util.regex.Pattern;
import javax.tools.ToolProvider;

/** What README.md shows as an example answers so, as Java itself reads it; each call and each test is on that page. */
public final class ReadmeTest {
    private static final Pattern SHOWN = Pattern.compile("x\\.(\\w+)\\((.*)\\); +// (-?\\d+|NONE|BAD|NO|FULL)(:.*)?");
    private static final Path FOLDER = Path.of("build", "readme");

    private static int wrong = 0;
    private static int answers = 0;

    public static void main(String[] args) throws IOException, ReflectiveOperationException {
        List<String> page = Files.readAllLines(Path.of("README.md"));
        callsAreShown(String.join("\n", page));
        testsAreTold(String.join("\n", page));
        runExamples(page);
        check("answers are shown: " + answers, answers > 60);
        System.out.println(wrong == 0 ? "ReadmeTest: all " + answers + " as due" : "ReadmeTest: " + wrong + " wrong");
        if (wrong != 0) {
            System.exit(1);
        }
    }

    /** Called by what is made of the examples. */
    public static void due(int line, String call, long got, long want) {
        answers++;
        check("README.md, line " + line + ": " + call + " answers " + got + ", not " + want, got == want);
    }

    private static void check(String what, boolean so) {
        if (!so) {
            wrong++;
            System.out.println("not so: " + what);
        }
    }

    private static void callsAreShown(String page) {
        for (Method m : FiredChips.class.getDeclaredMethods()) {
            if (Modifier.isPublic(m.getModifiers())) {
                check(m.getName() + " is in an example", page.contains("\nx." + m.getName() + "(")
                    || page.contains(" x." + m.getName() + "("));
            }
        }
    }

    private static void testsAreTold(String page) throws IOException {
        for (String folder : List.of("src/test/java", "src/test/support")) {
            try (var files = Files.list(Path.of(folder))) {
                for (Path file : files.toList()) {
                    String name = file.getFileName().toString().replace(".java", "");
                    check(name + " is on the page", page.contains("- `" + name + "`: ") || page.contains("`" + file + "`"));
                }
            }
        }
        Matcher paths = Pattern.compile("(\\.ci|src|\\.\\./shared)/[\\w./]*\\w").matcher(page);
        while (paths.find()) {
            check(paths.group() + " is there", Files.exists(Path.of(paths.group())));
        }
    }

    private static void runExamples(List<String> page) throws IOException, ReflectiveOperationException {
        Files.createDirectories(FOLDER);
        Path source = FOLDER.resolve("Examples.java");
        Files.writeString(source, programOf(page));
        int failed = ToolProvider.getSystemJavaCompiler().run(null, null, null, "-cp", System.getProperty("java.class.path"),
            "-d", FOLDER.toString(), source.toString());
        check("the examples are Java", failed == 0);
        if (failed == 0) {
            try (URLClassLoader loader = new URLClassLoader(new URL[] {FOLDER.toUri().toURL()})) {
                loader.loadClass("Examples").getMethod("run").invoke(null);
            } catch (InvocationTargetException e) {
                check("the examples end, and not by " + e.getCause(), false);
            }
        }
    }

    private static String programOf(List<String> page) {
        List<String> program = new ArrayList<>(List.of("public class Examples {", "public static void run() {"));
        boolean inside = false;
        for (int i = 0; i < page.size(); i++) {
            String line = page.get(i);
            if (line.equals("```java")) {
                inside = true;
                program.add("{");
            } else if (inside && line.equals("```")) {
                inside = false;
                program.add("}");
            } else if (inside) {
                program.add(checked(i + 1, line));
            }
        }
        program.add("}}");
        return String.join("\n", program);
    }

    private static String checked(int number, String line) {
        Matcher shown = SHOWN.matcher(line);
        if (!shown.matches()) {
            check("line " + number + " shows its answer so that it is looked at",
                !line.matches(".*// *(-?\\d|NONE|BAD|NO\\b|FULL).*"));
            return line;
        }
        String call = shown.group(1) + "(" + shown.group(2) + ")";
        String want = shown.group(3).matches("[A-Z]+") ? "FiredChips." + shown.group(3) : shown.group(3) + "L";
        return "ReadmeTest.due(" + number + ", \"" + call + "\", x." + call + ", " + want + ");";
    }
}
