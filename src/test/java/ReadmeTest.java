import java.lang.reflect.Method;
import java.lang.reflect.Modifier;
import java.nio.file.Files;
import java.nio.file.Path;
import java.util.Arrays;
import java.util.List;
import java.util.regex.Matcher;
import java.util.regex.Pattern;

/** README.md: its examples answer what it says, and it names each call, each refusal and each test. */
public final class ReadmeTest {
    private static final Check CHECK = new Check();
    private static final Pattern CALL = Pattern.compile("x\\.(\\w+)\\((.*)\\); *// ([^:]+)(:.*)?");
    private static final Pattern TEXT = Pattern.compile("for \\(char sign : \"(.*)\"\\.toCharArray\\(\\)\\) \\{.*");
    private static final List<String> ANSWERS =
        List.of("NONE", "UNKNOWN", "OUTSIDE", "STATE", "FULL", "NO", "LOST");

    public static void main(String[] args) throws Exception {
        String page = Files.readString(Path.of("README.md"));
        examples(page);
        names(page);
        CHECK.end();
    }

    private static void examples(String page) throws Exception {
        PaleMoor x = null;
        int calls = 0;
        for (String line : page.lines().filter(l -> !l.isBlank()).toList()) {
            Matcher text = TEXT.matcher(line);
            Matcher call = CALL.matcher(line);
            if (line.equals("PaleMoor x = new PaleMoor();")) {
                x = new PaleMoor();
            } else if (text.matches()) {
                Check.add(x, text.group(1));
            } else if (call.matches()) {
                CHECK.due(line, answer(x, call.group(1), call.group(2)), number(call.group(3)));
                calls++;
            } else {
                CHECK.holds("an example without its answer: " + line, !line.startsWith("x."));
            }
        }
        CHECK.holds("examples of each part", calls >= 40);
    }

    private static long answer(PaleMoor x, String name, String given) throws Exception {
        Method called = Arrays.stream(calls()).filter(m -> m.getName().equals(name)).findFirst().orElseThrow();
        String[] words = given.isEmpty() ? new String[0] : given.split(", ");
        Object[] values = new Object[words.length];
        for (int i = 0; i < words.length; i++) {
            boolean truth = called.getParameterTypes()[i] == boolean.class;
            values[i] = truth ? (Object) Boolean.valueOf(words[i]) : (Object) (int) number(words[i]);
        }
        return ((Number) called.invoke(x, values)).longValue();
    }

    private static Method[] calls() {
        return Arrays.stream(PaleMoor.class.getDeclaredMethods()).filter(m -> Modifier.isPublic(m.getModifiers()))
            .toArray(Method[]::new);
    }

    private static long number(String word) throws Exception {
        long sum = 0;
        for (String part : word.strip().split(" \\+ ")) {
            if (part.startsWith("'")) {
                sum += part.charAt(1);
            } else {
                sum += ANSWERS.contains(part) ? constant(part) : Long.parseLong(part);
            }
        }
        return sum;
    }

    private static long constant(String name) throws Exception {
        return ((Number) PaleMoor.class.getField(name).get(null)).longValue();
    }

    private static void names(String page) throws Exception {
        for (Method m : calls()) {
            CHECK.holds("README.md has an example of " + m.getName(), page.contains("x." + m.getName() + "("));
        }
        for (String name : ANSWERS.subList(1, ANSWERS.size() - 1)) {
            CHECK.holds("README.md tells " + name, page.contains("| `" + name + "` | " + constant(name) + " | "));
        }
        CHECK.holds("README.md tells NONE", page.contains("`NONE` (" + PaleMoor.NONE + ")"));
        try (var files = Files.list(Path.of("src/test/java"))) {
            for (String file : files.map(f -> f.getFileName().toString()).sorted().toList()) {
                String name = file.replace(".java", "");
                CHECK.holds("README.md tells what is in " + file, !name.endsWith("Test")
                    || page.contains("\n| " + name + " | "));
            }
        }
        CHECK.holds("README.md tells the command", page.contains("```sh\n.ci/run\n```"));
    }
}
