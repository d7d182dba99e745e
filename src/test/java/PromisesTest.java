import java.io.IOException;
import java.nio.file.Files;
import java.nio.file.Path;
import java.util.List;
import java.util.TreeSet;
import java.util.regex.Matcher;
import java.util.regex.Pattern;
import java.util.stream.Collectors;
import java.util.stream.Stream;

/** None of the document's promises is without a test that quotes it. */
public final class PromisesTest {
    private static final Path TESTS = Path.of("src/test/java");
    private static final Pattern QUOTED = Pattern.compile("Due\\.promise\\((\\d+), \"([^\"]*)\"");
    private static final Pattern MADE = Pattern.compile("## Promise (\\d+): (.*?) `");
    private static final int PROMISES = 28;

    public static void main(String[] args) throws IOException {
        TreeSet<String> quoted = new TreeSet<>();
        for (Path test : tests()) {
            quoted.addAll(found(QUOTED, Files.readString(test)));
        }
        Due.due("promises quoted", quoted.size(), PROMISES);
        for (int number = 1; number <= PROMISES; number++) {
            String ahead = number + " ";
            Due.due("promise " + number + " is quoted", quoted.stream().anyMatch(q -> q.startsWith(ahead)));
        }
        if (Doc.isHere()) {
            Due.due("those of the document: " + quoted, quoted.equals(found(MADE, Doc.words())));
        }
        Due.end();
    }

    private static List<Path> tests() throws IOException {
        try (Stream<Path> files = Files.list(TESTS)) {
            return files.filter(file -> file.toString().endsWith("Test.java")).collect(Collectors.toList());
        }
    }

    private static TreeSet<String> found(Pattern pattern, String words) {
        TreeSet<String> all = new TreeSet<>();
        Matcher matcher = pattern.matcher(words);
        while (matcher.find()) {
            all.add(matcher.group(1) + " " + matcher.group(2));
        }
        return all;
    }
}
