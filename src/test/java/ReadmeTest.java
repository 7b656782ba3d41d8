import java.io.IOException;
import java.lang.reflect.InvocationTargetException;
import java.lang.reflect.Method;
import java.lang.reflect.Modifier;
import java.nio.file.Files;
import java.nio.file.Path;
import java.util.TreeSet;
import java.util.regex.Matcher;
import java.util.regex.Pattern;

/** Runs every example of README.md, which is looked for in the working directory. */
public final class ReadmeTest {
    private static final Path README = Path.of("README.md");
    private static final String MAKING = "TenThousandthDesk desk = new TenThousandthDesk();";
    private static final Pattern EXAMPLE =
            Pattern.compile("desk\\.(\\w+)\\(([^()]*)\\); +// (answers -?\\d+|throws \\w+)(?:: .+)?");

    private final Check check = new Check();
    private final TreeSet<String> shown = new TreeSet<>();
    private TenThousandthDesk desk = null;

    public static void main(String[] args) throws IOException {
        ReadmeTest test = new ReadmeTest();
        test.readLines();
        test.everyCallIsShown();
        test.check.end();
    }

    private void readLines() throws IOException {
        boolean inExamples = false;
        for (String line : Files.readAllLines(README)) {
            if (line.startsWith("```")) {
                inExamples = line.equals("```java");
                desk = null;
            } else if (inExamples) {
                readExample(line);
            }
        }
    }

    /** A line of another form would go by without being looked at, so it counts as wrong. */
    private void readExample(String line) {
        Matcher example = EXAMPLE.matcher(line);
        if (line.equals(MAKING)) {
            desk = new TenThousandthDesk();
        } else if (desk != null && example.matches()) {
            shown.add(example.group(1));
            check.same("README.md: " + line, example.group(3), told(example.group(1), example.group(2)));
        } else {
            check.same("README.md: " + line, "an example", "something else");
        }
    }

    private String told(String name, String arguments) {
        try {
            return "answers " + method(name).invoke(desk, numbers(arguments));
        } catch (InvocationTargetException e) {
            return "throws " + e.getCause().getClass().getSimpleName();
        } catch (ReflectiveOperationException | IllegalArgumentException e) {
            return "no Java: " + e;
        }
    }

    private static Method method(String name) throws NoSuchMethodException {
        for (Method m : TenThousandthDesk.class.getDeclaredMethods()) {
            if (m.getName().equals(name)) {
                return m;
            }
        }
        throw new NoSuchMethodException(name);
    }

    /** An Integer or a Long as the literal is an int or a long, so that invoke is as strict as javac. */
    private static Object[] numbers(String arguments) {
        String[] texts = arguments.split(", ");
        Object[] numbers = new Object[texts.length];
        for (int i = 0; i < texts.length; i++) {
            String text = texts[i];
            boolean isLong = text.endsWith("L");
            numbers[i] = isLong ? (Object) Long.valueOf(text.substring(0, text.length() - 1)) : Integer.valueOf(text);
        }
        return numbers;
    }

    private void everyCallIsShown() {
        TreeSet<String> face = new TreeSet<>();
        for (Method m : TenThousandthDesk.class.getDeclaredMethods()) {
            if (Modifier.isPublic(m.getModifiers())) {
                face.add(m.getName());
            }
        }
        check.same("calls shown in README.md", face.toString(), shown.toString());
    }
}
