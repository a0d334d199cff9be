import java.io.IOException;
import java.lang.reflect.InvocationTargetException;
import java.lang.reflect.Method;
import java.lang.reflect.Modifier;
import java.nio.file.Files;
import java.nio.file.Path;
import java.util.ArrayList;
import java.util.List;
import java.util.regex.Matcher;
import java.util.regex.Pattern;
import java.util.stream.Stream;

/** README.md: its example answers as its comments say, and it names each call and each test. */
public final class ReadmeTest {
    private static final Checks CHECKS = new Checks();
    private static final Pattern EXAMPLE_LINE = Pattern.compile("hall\\.(\\w+)\\((.*?)\\);\\s*// (true|false|-?\\d+).*");
    private static final Pattern PHASE = Pattern.compile("the phase is ([A-Z]+)");

    public static void main(String[] args) throws Exception {
        List<String> readme = Files.readAllLines(Path.of("README.md"));
        example(readme);
        everyCallIsNamed(String.join("\n", readme));
        everyTestIsNamed(String.join("\n", readme));
        CHECKS.end("README.md");
    }

    private static void example(List<String> readme) throws Exception {
        TarockHall hall = new TarockHall();
        List<String> lines = linesOfTheExample(readme);
        CHECKS.holds("the example begins with a new hall",
            !lines.isEmpty() && lines.get(0).equals("TarockHall hall = new TarockHall();"));
        CHECKS.holds("the example shows a deal", lines.size() > 10);
        for (int k = 1; k < lines.size(); k++) {
            exampleLine(hall, lines.get(k));
        }
    }

    private static List<String> linesOfTheExample(List<String> readme) {
        List<String> lines = new ArrayList<>();
        boolean inside = false;
        for (String line : readme) {
            if (line.startsWith("```")) {
                inside = line.equals("```java");
            } else if (inside) {
                lines.add(line);
            }
        }
        return lines;
    }

    /** A call, its answer, and the phase behind it, where the comment tells it. */
    private static void exampleLine(TarockHall hall, String line) throws Exception {
        Matcher call = EXAMPLE_LINE.matcher(line);
        if (!call.matches()) {
            CHECKS.holds("a call with its answer in the comment: " + line, false);
            return;
        }
        CHECKS.same(line, answer(hall, call.group(1), call.group(2)), call.group(3));
        Matcher phase = PHASE.matcher(line);
        if (phase.find()) {
            CHECKS.same(line + ", the phase", Integer.toString(hall.phase()), constant(phase.group(1)));
        }
    }

    private static String answer(TarockHall hall, String name, String arguments) throws Exception {
        String[] words = arguments.isEmpty() ? new String[0] : arguments.split(",\\s*");
        Object[] numbers = new Object[words.length];
        for (int k = 0; k < words.length; k++) {
            String word = words[k].replace("TarockHall.", "");
            numbers[k] = Integer.valueOf(word.matches("-?\\d+") ? word : constant(word));
        }
        for (Method method : TarockHall.class.getDeclaredMethods()) {
            if (method.getName().equals(name) && method.getParameterCount() == numbers.length) {
                return answerOf(method, hall, numbers);
            }
        }
        return "there is no such call";
    }

    private static String answerOf(Method method, TarockHall hall, Object[] numbers) throws Exception {
        try {
            return String.valueOf(method.invoke(hall, numbers));
        } catch (InvocationTargetException e) {
            return "throws." + e.getCause().getClass().getSimpleName();
        }
    }

    private static String constant(String name) throws Exception {
        return String.valueOf(TarockHall.class.getField(name).getInt(null));
    }

    private static void everyCallIsNamed(String readme) {
        for (Method method : TarockHall.class.getDeclaredMethods()) {
            if (Modifier.isPublic(method.getModifiers())) {
                CHECKS.holds("README.md names " + method.getName(), readme.contains("`" + method.getName() + "("));
            }
        }
    }

    private static void everyTestIsNamed(String readme) throws IOException {
        try (Stream<Path> files = Files.list(Path.of("src/test/java"))) {
            for (Path file : (Iterable<Path>) files::iterator) {
                String name = file.getFileName().toString().replace(".java", "");
                CHECKS.holds("README.md names " + name, !name.endsWith("Test") || readme.contains("`" + name + "`"));
            }
        }
    }
}
