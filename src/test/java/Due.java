/** What the tests share: counting wrong answers, and texts told as Strings. */
final class Due {
    static final long LONG_BAD = -1_000_000_000_000_000_001L;
    static final long LONG_NO = -1_000_000_000_000_000_002L;
    static final int BAD = -1, NO = -2, FULL = -3, NONE = -4;

    private static int asked = 0;
    private static int wrong = 0;
    private static String sentence = "";

    private Due() {
    }

    static void due(String what, long got, long want) {
        asked++;
        if (got != want) {
            wrong++;
            if (wrong <= 50) {
                System.out.println(sentence + what + " answered " + got + ", due is " + want);
            }
        }
    }

    /** What follows holds the class to this sentence, which must stand in the document word by word. */
    static void sentence(String words) {
        sentence = "";
        due("the document says \"" + words + "\"", Doc.says(words));
        sentence = "\"" + words + "\": ";
    }

    /** What follows holds the class to this promise, which must stand in the document word by word. */
    static void promise(int number, String name, String words) {
        sentence = "";
        due("the document's promise " + number, Doc.says("## Promise " + number + ": " + name + " " + words));
        sentence = "Promise ";
    }

    static int asked() {
        return asked;
    }

    static void due(String what, boolean holds) {
        due(what, holds ? 1 : 0, 1);
    }

    /** Ends the test: exit code 1 if an answer was wrong, or if nothing was asked. */
    static void end() {
        System.out.println(asked + " answers, " + wrong + " wrong");
        if (wrong != 0 || asked == 0) {
            System.exit(1);
        }
    }

    /** Writes signs behind THE TEXT, eight at a time. */
    static void append(CountTriangles x, String signs) {
        for (int from = 0; from < signs.length(); from += 8) {
            String part = signs.substring(from, Math.min(from + 8, signs.length()));
            long v = 0;
            for (char sign : part.toCharArray()) {
                v = v << 8 | sign;
            }
            x.write(part.length(), v);
        }
    }

    static void text(CountTriangles x, String signs) {
        x.wipe();
        append(x, signs);
    }

    /** A new object with a LAW 0. */
    static CountTriangles withLaw(String signs) {
        CountTriangles x = new CountTriangles();
        lay(x, 0, signs);
        return x;
    }

    static void lay(CountTriangles x, int l, String signs) {
        text(x, signs);
        due("lay(" + l + ") of " + signs, x.lay(l) >= 0);
    }

    /** A row of digits, such as "3120", told by four bits a digit. */
    static int row(String digits) {
        return (int) Long.parseLong(digits, 16);
    }

    /** POLYNOMIAL p in a BASE with coefficients of 0, 1, .. factors. */
    static void polynomial(CountTriangles x, int p, int base, long... coefficients) {
        x.base(p, base);
        for (int k = 0; k < coefficients.length; k++) {
            x.set(p, k, coefficients[k]);
        }
    }
}
