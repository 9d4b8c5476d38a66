import java.lang.reflect.Method;
import java.lang.reflect.Modifier;
import java.nio.file.Files;
import java.nio.file.Path;
import java.util.ArrayList;
import java.util.List;
import java.util.regex.Matcher;
import java.util.regex.Pattern;

/** That the examples of README.md answer what they say, and that each public method stands there. */
public final class ReadmeTest extends Checks {
    private static final Path README = Path.of("README.md");
    private static final String MADE = "SlidesOverSlides x = new SlidesOverSlides();";
    private static final Pattern FED =
        Pattern.compile("for \\(char letter : \"(.*)\"\\.toCharArray\\(\\)\\) x\\.feed\\(letter\\);");
    private static final Pattern CALLED = Pattern.compile("x\\.(\\w+)\\(([-0-9, ]*)\\);\\s*// (-?\\d+)(:.*)?");

    private static SlidesOverSlides x = new SlidesOverSlides();

    /** The lines of all Java examples, from the first to the last. */
    private static List<String> examples(List<String> page) {
        List<String> lines = new ArrayList<>();
        boolean isInside = false;
        for (String line : page) {
            if (line.startsWith("```")) isInside = line.equals("```java");
            else if (isInside) lines.add(line);
        }
        return lines;
    }

    private static Method methodOf(String name, int arguments) {
        for (Method m : SlidesOverSlides.class.getDeclaredMethods()) {
            if (Modifier.isPublic(m.getModifiers()) && m.getName().equals(name) && m.getParameterCount() == arguments) {
                return m;
            }
        }
        return null;
    }

    private static Object[] numbers(String told) {
        if (told.isBlank()) return new Object[0];
        String[] parts = told.split(",");
        Object[] numbers = new Object[parts.length];
        for (int i = 0; i < parts.length; i++) numbers[i] = Integer.parseInt(parts[i].trim());
        return numbers;
    }

    private static void run(String line) throws ReflectiveOperationException {
        Matcher fed = FED.matcher(line);
        Matcher called = CALLED.matcher(line);
        if (line.equals(MADE)) {
            x = new SlidesOverSlides();
        } else if (fed.matches()) {
            for (char letter : fed.group(1).toCharArray()) x.feed(letter);
        } else if (called.matches()) {
            Object[] arguments = numbers(called.group(2));
            Method m = methodOf(called.group(1), arguments.length);
            due("the class has " + line, m == null ? 0 : 1, 1);
            if (m != null) due(line, ((Number) m.invoke(x, arguments)).longValue(), Long.parseLong(called.group(3)));
        } else {
            due("an example that can be read: " + line, 0, 1);
        }
    }

    /** Each method has a row in a table with its parameters, and is called in an example. */
    private static void noneIsLeftOut(String page, List<String> examples) {
        String all = String.join("\n", examples);
        for (Method m : SlidesOverSlides.class.getDeclaredMethods()) {
            if (!Modifier.isPublic(m.getModifiers())) continue;
            Pattern row = Pattern.compile("\\| `" + m.getName() + "\\(([^)]*)\\)` \\|");
            Matcher found = row.matcher(page);
            boolean stands = found.find();
            due("a row for " + m.getName(), stands ? 1 : 0, 1);
            if (!stands) continue;
            int named = found.group(1).isEmpty() ? 0 : found.group(1).split(",").length;
            due("parameters of " + m.getName(), named, m.getParameterCount());
            due("an example of " + m.getName(), all.contains("x." + m.getName() + "(") ? 1 : 0, 1);
        }
    }

    public static void main(String[] args) throws Exception {
        about("README.md");
        List<String> page = Files.readAllLines(README);
        List<String> examples = examples(page);
        due("examples", examples.size() > 25 ? 1 : 0, 1);
        for (String line : examples) run(line);
        noneIsLeftOut(String.join("\n", page), examples);
        end();
    }
}
