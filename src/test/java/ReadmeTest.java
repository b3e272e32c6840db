import java.io.IOException;
import java.lang.reflect.InvocationTargetException;
import java.lang.reflect.Method;
import java.nio.file.Files;
import java.nio.file.Path;
import java.util.ArrayList;
import java.util.HashSet;
import java.util.List;
import java.util.NoSuchElementException;
import java.util.Set;
import java.util.regex.Matcher;
import java.util.regex.Pattern;

/** Plays the calls that README.md shows, line by line: each answers what stands behind it there. */
public final class ReadmeTest {
    private static final Path README = Path.of("README.md");
    private static final Path TESTS = Path.of("src/test/java");
    private static final Pattern CALL =
            Pattern.compile("x\\.(\\w+)\\(([^()]*)\\);\\s*// (-?\\d+|true|false|NoSuchElementException)\\b.*");
    private static final Pattern TEXT = Pattern.compile("Bench\\.feedText\\(x, \"([^\"]*)\"\\);");
    private static final Pattern BYTES = Pattern.compile("Bench\\.feedBytes\\(x, ([^()]*)\\);");

    private final Set<String> shown = new HashSet<>();
    private CoatWorks x = null;

    public static void main(String[] args) throws Exception {
        List<String> lines = Files.readAllLines(README);
        ReadmeTest readme = new ReadmeTest();
        for (String line : javaLines(lines)) {
            readme.play(line.trim());
        }
        readme.everyCallIsShown();
        everyTestIsNamed(lines);
        Bench.finish("ReadmeTest");
    }

    private static List<String> javaLines(List<String> lines) {
        List<String> java = new ArrayList<>();
        boolean inside = false;
        for (String line : lines) {
            if (line.startsWith("```")) {
                inside = line.equals("```java");
            } else if (inside && !line.isBlank()) {
                java.add(line);
            }
        }
        return java;
    }

    private void play(String line) throws IllegalAccessException {
        Matcher call = CALL.matcher(line);
        Matcher text = TEXT.matcher(line);
        Matcher bytes = BYTES.matcher(line);
        if (line.equals("CoatWorks x = new CoatWorks();")) {
            x = new CoatWorks();
        } else if (text.matches()) {
            Bench.feedText(x, text.group(1));
        } else if (bytes.matches()) {
            Bench.feedBytes(x, numbers(bytes.group(1)));
        } else if (call.matches()) {
            Bench.due(line, answer(call.group(1), numbers(call.group(2))).equals(call.group(3)), true);
        } else {
            Bench.due("a line that can be played: " + line, false, true);
        }
    }

    private String answer(String name, int[] numbers) throws IllegalAccessException {
        shown.add(name);
        Object[] arguments = new Object[numbers.length];
        for (int i = 0; i < numbers.length; i++) {
            arguments[i] = numbers[i];
        }
        for (Method method : CoatWorks.class.getDeclaredMethods()) {
            if (method.getName().equals(name) && method.getParameterCount() == numbers.length) {
                try {
                    return String.valueOf(method.invoke(x, arguments));
                } catch (InvocationTargetException e) {
                    return e.getCause() instanceof NoSuchElementException ? "NoSuchElementException" : "a fault";
                }
            }
        }
        return "no such call";
    }

    private static int[] numbers(String list) {
        String[] parts = list.isBlank() ? new String[0] : list.split(",");
        int[] numbers = new int[parts.length];
        for (int i = 0; i < parts.length; i++) {
            String part = parts[i].trim();
            numbers[i] = part.equals("CoatWorks.NONE") ? CoatWorks.NONE : Integer.decode(part);
        }
        return numbers;
    }

    private void everyCallIsShown() {
        for (Method method : CoatWorks.class.getMethods()) {
            if (method.getDeclaringClass() == CoatWorks.class) {
                Bench.due("README.md shows " + method.getName(), shown.contains(method.getName()), true);
            }
        }
    }

    private static void everyTestIsNamed(List<String> lines) throws IOException {
        String all = String.join("\n", lines);
        try (var files = Files.list(TESTS)) {
            for (Path file : files.toList()) {
                String name = file.getFileName().toString().replace(".java", "");
                if (name.endsWith("Test")) {
                    Bench.due("README.md names " + name, all.contains("| " + name + " |"), true);
                }
            }
        }
    }
}
