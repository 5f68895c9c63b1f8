import java.io.IOException;
import java.lang.reflect.Method;
import java.lang.reflect.Modifier;
import java.nio.file.Files;
import java.nio.file.Path;
import java.util.ArrayList;
import java.util.List;
import java.util.Set;
import java.util.TreeSet;
import java.util.regex.Matcher;
import java.util.regex.Pattern;
import java.util.stream.Stream;

/** What README.md shows of calls and answers is so, and its table names every test. */
public final class ReadmeTest {
    private static final Check CHECK = new Check();
    private static final Pattern MADE = Pattern.compile("TakenNumbers port = new TakenNumbers\\(\\);\\s*(//.*)?");
    private static final Pattern WRITTEN = Pattern.compile("for \\(char letter : \"([^\"]*)\"\\.toCharArray\\(\\)\\) \\{");
    private static final Pattern ASKED = Pattern.compile("port\\.(\\w+)\\(([^()]*)\\);\\s*// (-?\\d+)\\b.*");

    private static TakenNumbers port;
    private static String toWrite;
    private static final Set<String> shown = new TreeSet<>();

    public static void main(String[] args) throws ReflectiveOperationException, IOException {
        List<String> readme = Files.readAllLines(Path.of("README.md"));
        for (String line : javaLines(readme)) {
            follow(line.trim());
        }
        everyCallIsShown();
        everyTestIsNamed(readme);
        CHECK.end();
    }

    private static List<String> javaLines(List<String> readme) {
        List<String> lines = new ArrayList<>();
        boolean inside = false;
        for (String line : readme) {
            boolean fence = line.startsWith("```");
            if (inside && !fence && !line.isBlank()) {
                lines.add(line);
            }
            inside = fence ? line.equals("```java") : inside;
        }
        return lines;
    }

    /** A line that is none of these would show what nothing looks at. */
    private static void follow(String line) throws ReflectiveOperationException {
        Matcher written = WRITTEN.matcher(line);
        Matcher asked = ASKED.matcher(line);
        if (MADE.matcher(line).matches()) {
            port = new TakenNumbers();
        } else if (written.matches()) {
            toWrite = written.group(1);
        } else if (line.matches("port\\.write\\(letter\\);\\s*(//.*)?")) {
            shown.add("write");
            for (char letter : toWrite.toCharArray()) {
                CHECK.that("written: " + letter, port.write(letter) > 0);
            }
        } else if (asked.matches()) {
            shown.add(asked.group(1));
            CHECK.due(line, answer(asked.group(1), asked.group(2)), Integer.parseInt(asked.group(3)));
        } else {
            CHECK.that("understood: " + line, line.equals("}"));
        }
    }

    private static int answer(String name, String told) throws ReflectiveOperationException {
        String[] parts = told.isBlank() ? new String[0] : told.split(", *");
        for (Method method : TakenNumbers.class.getMethods()) {
            if (method.getName().equals(name) && method.getParameterCount() == parts.length) {
                Object[] values = new Object[parts.length];
                for (int k = 0; k < parts.length; k++) {
                    values[k] = method.getParameterTypes()[k] == boolean.class ? (Object) Boolean.valueOf(parts[k]) : Integer.decode(parts[k]);
                }
                return (Integer) method.invoke(port, values);
            }
        }
        throw new NoSuchMethodException(name);
    }

    private static void everyCallIsShown() {
        for (Method method : TakenNumbers.class.getDeclaredMethods()) {
            if (Modifier.isPublic(method.getModifiers())) {
                CHECK.that("README.md shows " + method.getName(), shown.contains(method.getName()));
            }
        }
    }

    private static void everyTestIsNamed(List<String> readme) throws IOException {
        Set<String> named = new TreeSet<>();
        for (String line : readme) {
            Matcher matcher = Pattern.compile("\\| `(\\w+Test)` \\|.*").matcher(line);
            if (matcher.matches()) {
                named.add(matcher.group(1));
            }
        }
        Set<String> there = new TreeSet<>();
        try (Stream<Path> files = Files.list(Path.of("src/test/java"))) {
            files.map(file -> file.getFileName().toString()).filter(name -> name.endsWith("Test.java"))
                    .forEach(name -> there.add(name.substring(0, name.length() - 5)));
        }
        CHECK.that("the table names " + there, named.equals(there));
    }
}
