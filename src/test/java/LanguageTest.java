import java.lang.reflect.Field;
import java.lang.reflect.Method;
import java.lang.reflect.Modifier;
import java.nio.file.Files;
import java.nio.file.Path;
import java.util.ArrayList;
import java.util.Arrays;
import java.util.List;
import java.util.Set;
import java.util.TreeSet;
import java.util.regex.Matcher;
import java.util.regex.Pattern;

/** Those rules of LANGUAGE.md that can be read off the class or its file; the rule's number stands in each line. */
public final class LanguageTest {
    private static final Check CHECK = new Check();
    private static final Set<String> LIBRARY = Set.of("Arrays.fill", "System.arraycopy", "Math.min", "Math.max",
        "Integer.compare", "Integer.bitCount");

    public static void main(String[] args) throws Exception {
        String source = Files.readString(Path.of("src/main/java/PaleMoor.java"));
        String code = source.replaceAll("/\\*\\*.*?\\*/", "").replaceAll("//[^\n]*", "");
        CHECK.holds("3: signs 10 and 32 to 126 alone", source.chars().allMatch(c -> c == 10 || c >= 32 && c < 127));
        words(code);
        library(code);
        made(code);
        classes();
        names();
        lengths(code);
        CHECK.end();
    }

    private static void words(String code) {
        for (String word : new String[] {"->", "::", "@", "try", "catch", "throw", "throws", "finally", "instanceof",
                "synchronized", "assert", "volatile", "static {", "double", "float", "Exact", "getClass", "hashCode",
                "equals", "toString", "package", "protected", "String", "values"}) {
            String whole = Character.isLetter(word.charAt(0)) ? "(?<!\\w)" + Pattern.quote(word) + "(?!\\w)" : word;
            CHECK.holds("2, 3, 4, 5, 6: no " + word, !Pattern.compile(whole).matcher(code).find());
        }
    }

    private static void library(String code) {
        for (String found : all("import [^;]*;", code)) {
            CHECK.holds("4: " + found, found.equals("import java.util.Arrays;"));
        }
        for (String found : all("(?<![\\w.])(Arrays|System|Math|Integer|Long|Character|Boolean)\\.\\w+", code)) {
            CHECK.holds("4: " + found, LIBRARY.contains(found));
        }
    }

    /** What is made is made with the object: each new stands where a field is declared. */
    private static void made(String code) {
        for (String line : code.split("\n")) {
            CHECK.holds("12: made with the object: " + line.strip(), !line.contains("new ")
                || line.matches(" +private final [\\w\\[\\]]+ \\w+ = new [^;]*;"));
        }
    }

    private static List<Class<?>> allClasses() {
        List<Class<?>> classes = new ArrayList<>(List.of(PaleMoor.class.getDeclaredClasses()));
        classes.add(PaleMoor.class);
        return classes;
    }

    private static void classes() {
        CHECK.holds("11: some twelve classes", allClasses().size() <= 12);
        for (Class<?> c : allClasses()) {
            int how = c.getModifiers();
            CHECK.holds("1: " + c, c == PaleMoor.class || Modifier.isStatic(how) && !Modifier.isPublic(how)
                && !Modifier.isProtected(how) && c.getDeclaredClasses().length == 0);
            int fields = 0;
            for (Field f : c.getDeclaredFields()) {
                boolean fixed = Modifier.isStatic(f.getModifiers());
                fields += fixed ? 0 : 1;
                CHECK.holds("5: " + f, !fixed || Modifier.isFinal(f.getModifiers())
                    && (f.getType() == int.class || f.getType() == long.class));
            }
            CHECK.holds("11: some twenty fields in " + c, fields <= 20);
            for (Method m : c.getDeclaredMethods()) {
                CHECK.holds("11: at most seven parameters of " + m, m.getParameterCount() <= 7);
            }
        }
    }

    private static void names() {
        TreeSet<String> face = new TreeSet<>();
        Arrays.stream(PaleMoor.class.getDeclaredMethods()).filter(m -> Modifier.isPublic(m.getModifiers()))
            .forEach(m -> face.add(m.getName()));
        for (Class<?> c : allClasses()) {
            for (Method m : c.getDeclaredMethods()) {
                boolean ofFace = c == PaleMoor.class && Modifier.isPublic(m.getModifiers());
                CHECK.holds("1: a name of the face alone: " + m, ofFace || !face.contains(m.getName()));
            }
        }
    }

    /** A method ends at the first brace that stands as far left as its first line. */
    private static void lengths(String code) {
        Matcher method = Pattern.compile("(?m)^( +)[\\w\\[\\] ]+\\([^;{}]*\\) \\{\n(?s:.*?)^\\1\\}").matcher(code);
        int methods = 0;
        while (method.find()) {
            methods++;
            int lines = method.group().split("\n").length;
            CHECK.holds("11: some sixty lines: " + method.group().lines().findFirst().orElse(""), lines <= 60);
        }
        CHECK.holds("methods were found: " + methods, methods >= 100);
    }

    private static List<String> all(String pattern, String code) {
        return Pattern.compile(pattern).matcher(code).results().map(r -> r.group()).toList();
    }
}
