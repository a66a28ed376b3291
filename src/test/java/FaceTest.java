import java.io.IOException;
import java.lang.reflect.Field;
import java.lang.reflect.Method;
import java.lang.reflect.Modifier;
import java.nio.file.Files;
import java.nio.file.Path;
import java.util.Arrays;
import java.util.HashSet;
import java.util.List;
import java.util.Set;
import java.util.TreeSet;
import java.util.regex.Matcher;
import java.util.regex.Pattern;
import java.util.stream.Collectors;

/** The public face of the document, and the rules of LANGUAGE.md that can be seen from outside. */
public final class FaceTest {
    private static final String FACE = "points/1 lines/3 draws/1 net/2 joined/0 sets/2 adds/2 fires/1 borrows/1 together/1"
        + " settles/0 script/1 of/2 stable/0 burns/1 trees/0 parts/1 identity/1 recurrent/1 order/0 heaps/1 rank/1"
        + " reduced/2 won/0 keeps/1 equal/1 way/2 type/1 clear/0 reads/0 back/0 told/1 digest/0";
    private static final List<String> RULED_OUT = List.of("throw", "throws", "try", "catch", "finally", "synchronized",
        "assert", "yield", "->", "::", "Exact", "hashCode", "toString", "Object", "protected", "System.out", "System.nano",
        "while (true)", "(;;)", "; ;", "double", "float");
    private static final Set<String> LIBRARY = Set.of("Arrays.fill", "Math.abs", "Math.max", "Math.min", "Math.floorDiv",
        "Integer.bitCount", "System.arraycopy");

    private static int wrong = 0;

    public static void main(String[] args) throws IOException {
        methods();
        others();
        source();
        lengths();
        System.out.println(wrong == 0 ? "FaceTest: all as due" : "FaceTest: " + wrong + " wrong");
        if (wrong != 0) {
            System.exit(1);
        }
    }

    private static void check(String what, boolean so) {
        if (!so) {
            wrong++;
            System.out.println("not so: " + what);
        }
    }

    private static void methods() {
        Set<String> seen = new TreeSet<>();
        for (Method m : FiredChips.class.getDeclaredMethods()) {
            if (Modifier.isPublic(m.getModifiers())) {
                seen.add(m.getName() + "/" + m.getParameterCount());
                Class<?> due = m.getName().equals("digest") ? long.class : int.class;
                check(m.getName() + " answers " + due, m.getReturnType() == due);
                check(m.getName() + " takes int alone", Arrays.stream(m.getParameterTypes()).allMatch(t -> t == int.class));
                check(m.getName() + " is no static method", !Modifier.isStatic(m.getModifiers()));
            } else {
                check(m.getName() + " is private", Modifier.isPrivate(m.getModifiers()) || m.isSynthetic());
            }
        }
        Set<String> due = Arrays.stream(FACE.split(" ")).collect(Collectors.toCollection(TreeSet::new));
        check("face " + seen, seen.equals(due));
    }

    private static void others() {
        check("class is public and final", Modifier.isPublic(FiredChips.class.getModifiers())
            && Modifier.isFinal(FiredChips.class.getModifiers()));
        Set<String> open = Arrays.stream(FiredChips.class.getDeclaredFields())
            .filter(f -> !Modifier.isPrivate(f.getModifiers())).map(f -> f.getName())
            .collect(Collectors.toCollection(TreeSet::new));
        check("fields " + open, open.equals(new TreeSet<>(List.of("NONE", "BAD", "NO", "FULL"))));
        check("constants", FiredChips.NONE == -1 && FiredChips.BAD == -2 && FiredChips.NO == -3 && FiredChips.FULL == -4);
        check("one constructor", FiredChips.class.getDeclaredConstructors().length == 1);
        Set<String> names = Arrays.stream(FACE.split(" ")).map(s -> s.split("/")[0]).collect(Collectors.toSet());
        for (Class<?> inside : FiredChips.class.getDeclaredClasses()) {
            check(inside + " is static", Modifier.isStatic(inside.getModifiers()));
            check(inside + " has few fields", inside.getDeclaredFields().length <= 20);
            for (Method m : inside.getDeclaredMethods()) {
                check(inside + "." + m.getName() + " has a name of its own", !names.contains(m.getName()));
            }
        }
        Set<Class<?>> all = new HashSet<>(Set.of(FiredChips.class.getDeclaredClasses()));
        all.add(FiredChips.class);
        for (Class<?> each : all) {
            for (Field f : each.getDeclaredFields()) {
                int how = f.getModifiers();
                check(f + " is a constant or no static field", !Modifier.isStatic(how)
                    || Modifier.isFinal(how) && f.getType() == int.class);
            }
        }
        check("few classes", FiredChips.class.getDeclaredClasses().length <= 11);
    }

    private static void source() throws IOException {
        String text = Files.readString(Path.of("src/main/java/FiredChips.java"));
        String code = text.replaceAll("(?s)/\\*.*?\\*/", " ").replaceAll("//[^\n]*", " ");
        for (String word : RULED_OUT) {
            boolean found = word.matches("\\w+") ? code.matches("(?s).*\\b" + word + "\\b.*") : code.contains(word);
            check("'" + word + "' is not in the source", !found);
        }
        Matcher used = Pattern.compile("\\b(Arrays|Math|Integer|Long|System|String|Character)\\.(\\w+)").matcher(
            code.replace("import java.util.Arrays;", ""));
        while (used.find()) {
            check(used.group() + " is in the library that is left", LIBRARY.contains(used.group()));
        }
        check("one import", code.split("import ").length == 2 && code.contains("import java.util.Arrays;"));
        check("no package", !code.contains("package "));
        check("signs 1 to 127", text.chars().allMatch(c -> c > 0 && c < 128));
    }

    /** Rules 11 and 12: short methods with few parameters; objects are made by fields and constructors alone. */
    private static void lengths() throws IOException {
        List<String> lines = Files.readAllLines(Path.of("src/main/java/FiredChips.java"));
        int methods = 0;
        for (int i = 0; i < lines.size(); i++) {
            String line = lines.get(i);
            if (line.matches(" {4,8}[a-z][\\w \\[\\]]* \\w+\\(.*\\) \\{") && !line.contains(" new ")) {
                methods++;
                check("few parameters in line " + (i + 1), line.split(",").length <= 7);
                String end = line.substring(0, line.indexOf(line.trim())) + "}";
                check("a short method from line " + (i + 1) + " on", lines.subList(i, lines.size()).indexOf(end) <= 60);
            }
            boolean makes = line.matches(".*\\bnew [A-Za-z]+[(\\[].*");
            check("line " + (i + 1) + " makes objects once", !makes || line.matches(" +private final .* = new .*;")
                || line.trim().equals("states[i] = new Position();"));
        }
        check("methods were found: " + methods, methods > 90);
    }
}
