import java.io.IOException;
import java.lang.reflect.Method;
import java.lang.reflect.Modifier;
import java.nio.file.Files;
import java.nio.file.Path;
import java.util.Set;
import java.util.TreeSet;
import java.util.regex.Matcher;
import java.util.regex.Pattern;

/** What README.md shows of the class: each line's call has the answer that stands behind it. */
public final class ReadmeTest {
    private static final Path README = Path.of("README.md");
    private static final String NEW = "CountTriangles x = new CountTriangles();";
    private static final Pattern CALL = Pattern.compile("x\\.(\\w+)\\(([^)]*)\\); +// (-?\\w+)(:.*)?");

    public static void main(String[] args) throws Exception {
        String words = Files.readString(README);
        Due.due("it says how to run the tests", words.contains("bash .ci/run"));
        Set<String> shown = new TreeSet<>();
        Matcher blocks = Pattern.compile("(?s)```java\n(.*?)```").matcher(words);
        while (blocks.find()) {
            run(blocks.group(1), shown);
        }
        for (Method method : CountTriangles.class.getDeclaredMethods()) {
            if (Modifier.isPublic(method.getModifiers())) {
                Due.due("it shows " + method.getName(), shown.contains(method.getName()));
            }
        }
        tests(words);
        Due.end();
    }

    private static void run(String block, Set<String> shown) throws ReflectiveOperationException {
        CountTriangles x = null;
        for (String line : block.split("\n")) {
            Matcher call = CALL.matcher(line);
            if (line.equals(NEW)) {
                x = new CountTriangles();
            } else if (x != null && call.matches()) {
                shown.add(call.group(1));
                Due.due(line, answer(x, call.group(1), call.group(2)), Long.decode(call.group(3)));
            } else {
                Due.due("a line that is understood: " + line, false);
            }
        }
    }

    private static long answer(CountTriangles x, String name, String told) throws ReflectiveOperationException {
        for (Method method : CountTriangles.class.getDeclaredMethods()) {
            if (!method.getName().equals(name) || !Modifier.isPublic(method.getModifiers())) {
                continue;
            }
            Class<?>[] types = method.getParameterTypes();
            String[] parts = told.isEmpty() ? new String[0] : told.split(", ");
            Object[] with = new Object[parts.length];
            for (int i = 0; i < parts.length; i++) {
                long number = Long.decode(parts[i].replace("L", ""));
                if (types[i] == long.class) {
                    with[i] = number;
                } else {
                    with[i] = (int) number;
                }
            }
            return ((Number) method.invoke(x, with)).longValue();
        }
        throw new NoSuchMethodException(name);
    }

    /** The page's table has every test that there is. */
    private static void tests(String words) throws IOException {
        try (var files = Files.list(Path.of("src/test/java"))) {
            files.map(file -> file.getFileName().toString())
                    .filter(name -> name.endsWith("Test.java"))
                    .map(name -> name.replace(".java", ""))
                    .forEach(name -> Due.due("it tells of " + name, words.contains("| `" + name + "` |")));
        }
    }
}
