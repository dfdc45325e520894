import java.io.IOException;
import java.lang.reflect.Method;
import java.lang.reflect.Modifier;
import java.nio.charset.StandardCharsets;
import java.nio.file.Files;
import java.nio.file.Path;
import java.util.HashMap;
import java.util.List;
import java.util.Map;
import java.util.Set;
import java.util.TreeSet;
import java.util.regex.Matcher;
import java.util.regex.Pattern;

/** The calls in README.md, in their order, answer what stands behind them; it names each call of the face and each test. */
public final class ReadmeTest {
    private static final Path PAGE = Path.of("README.md");
    private static final Path TESTS = Path.of("src/test/java");
    private static final Pattern CALL = Pattern.compile("larder\\.(\\w+)\\(([-0-9, ]*)\\);\\s*// (-?\\d+)[:.,].*");
    private static final Pattern FEEDS = Pattern.compile("for \\(char c : \"([^\"]*)\"\\.toCharArray\\(\\)\\) larder\\.feed\\(c\\);");
    private static final String NEW = "RoadsNotGoneBy larder = new RoadsNotGoneBy();";

    private static int wrong = 0;
    private static final Map<String, Method> FACE = new HashMap<>();
    private static final Set<String> ASKED = new TreeSet<>();

    public static void main(String[] args) throws IOException, ReflectiveOperationException {
        for (Method m : RoadsNotGoneBy.class.getDeclaredMethods()) {
            if (Modifier.isPublic(m.getModifiers())) {
                FACE.put(m.getName(), m);
            }
        }
        List<String> lines = Files.readAllLines(PAGE, StandardCharsets.UTF_8);
        examples(lines);
        Set<String> left = new TreeSet<>(FACE.keySet());
        left.removeAll(ASKED);
        due("it asks each call; left out: " + left, left.isEmpty());
        namesEachTest(String.join("\n", lines));
        System.out.println(wrong == 0 ? "the page says what is" : wrong + " things are not as due");
        if (wrong != 0) {
            System.exit(1);
        }
    }

    private static void due(String what, boolean holds) {
        if (!holds) {
            wrong++;
            System.out.println(what);
        }
    }

    private static void examples(List<String> lines) throws ReflectiveOperationException {
        RoadsNotGoneBy larder = new RoadsNotGoneBy();
        boolean java = false;
        for (String line : lines) {
            if (line.startsWith("```")) {
                java = line.equals("```java");
            } else if (java && !line.equals(NEW)) {
                example(larder, line);
            }
        }
    }

    private static void example(RoadsNotGoneBy larder, String line) throws ReflectiveOperationException {
        Matcher feeds = FEEDS.matcher(line);
        Matcher call = CALL.matcher(line);
        if (feeds.matches()) {
            ASKED.add("feed");
            for (char c : feeds.group(1).toCharArray()) {
                larder.feed(c);
            }
        } else if (call.matches() && FACE.containsKey(call.group(1))) {
            ASKED.add(call.group(1));
            long got = answer(larder, FACE.get(call.group(1)), call.group(2));
            due(line + " answered " + got, got == Long.parseLong(call.group(3)));
        } else {
            due("no call with its answer: " + line, false);
        }
    }

    private static long answer(RoadsNotGoneBy larder, Method called, String numbers) throws ReflectiveOperationException {
        String[] parts = numbers.isBlank() ? new String[0] : numbers.split(", ");
        Object[] arguments = new Object[parts.length];
        for (int i = 0; i < parts.length; i++) {
            arguments[i] = Integer.parseInt(parts[i]);
        }
        return ((Number) called.invoke(larder, arguments)).longValue();
    }

    private static void namesEachTest(String page) throws IOException {
        try (var files = Files.list(TESTS)) {
            for (Path file : files.toList()) {
                String name = file.getFileName().toString().replace(".java", "");
                due("it doesn't name " + name, page.contains("- `" + name + "`: "));
            }
        }
    }
}
