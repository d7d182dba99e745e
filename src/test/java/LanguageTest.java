import java.io.IOException;
import java.nio.file.Files;
import java.nio.file.Path;
import java.util.regex.Matcher;
import java.util.regex.Pattern;

/** What can be seen of LANGUAGE.md's rules by reading the source file's lines. */
public final class LanguageTest {
    private static final Path SOURCE = Path.of("src/main/java/CountTriangles.java");
    private static final String[] FORBIDDEN = {
        "\\bpackage\\b", "->", "::", "\\btry\\b", "\\bcatch\\b", "\\bfinally\\b", "\\bthrow\\b", "\\bthrows\\b",
        "\\bsynchronized\\b", "\\bassert\\b", "\\bvar\\b", "static \\{", "\\bdouble\\b", "\\bfloat\\b",
        "\\bSystem\\.(?!arraycopy\\b)", "\\bThread\\b", "Exact\\(", "\\bObject\\b", "\\bwhile\\b", "\\bRandom\\b",
        "\\bMath\\.(?!(abs|max|min|floorMod)\\()", "\\bInteger\\.(?!bitCount\\()",
        "\\bLong\\.", "\\bArrays\\.(?!fill\\()",
    };
    private static final int LONGEST_METHOD = 60;

    public static void main(String[] args) throws IOException {
        String source = Files.readString(SOURCE);
        String code = source.replaceAll("(?s)/\\*.*?\\*/", "").replaceAll("//[^\n]*", "");
        for (String wrong : FORBIDDEN) {
            Matcher matcher = Pattern.compile(wrong).matcher(code);
            Due.due("4, 6, 13: " + wrong, !matcher.find());
        }
        for (String line : code.split("\n")) {
            Due.due("4: " + line, !line.startsWith("import") || line.equals("import java.util.Arrays;"));
            boolean variable = line.matches(".*\\bstatic\\b[^(]*(=|;).*") && !line.contains(" final ");
            Due.due("5: " + line, !variable);
            Due.due("3, signs 1 to 127: " + line, line.chars().allMatch(sign -> sign < 128));
        }
        Matcher arrays = Pattern.compile("new (\\w+)\\[").matcher(code);
        while (arrays.find()) {
            Due.due("3: new " + arrays.group(1), arrays.group(1).matches("int|long|byte|Law|Mark|Polynomial"));
        }
        classes(code);
        methods(code);
        Due.end();
    }

    private static void classes(String code) {
        Matcher classes = Pattern.compile("\\bclass\\b").matcher(code);
        int all = 0;
        while (classes.find()) {
            all++;
        }
        Due.due("11: classes", all <= 12);
    }

    /** Methods begin with eight or four blanks at the most and end with } under their first sign. */
    private static void methods(String code) {
        Matcher methods = Pattern.compile("(?m)^( {4}| {8})(\\w[\\w\\[\\] ]*)\\(([^)]*)\\) \\{\n(?s)(.*?)\n\\1\\}").matcher(code);
        int all = 0;
        while (methods.find()) {
            all++;
            String told = methods.group(2);
            Due.due("11: lines of " + told, methods.group(4).split("\n").length <= LONGEST_METHOD);
            Due.due("11: parameters of " + told, methods.group(3).split(",").length <= 7);
        }
        Due.due("methods were found", all > 80);
    }
}
