/** TRIANGLES of LAWS (promises 6 to 9): a test for each sentence that names a boundary case. */
public final class TriangleBoundariesTest {
    private static final String CHOICES = "a1,0,0;b1,0,0;";
    private static final String SIGNED = "a1,0,0;b-1,0,0;";
    private static final int ALL = 0, SIGNS = 1, SLANT = 2, SQUARES = 3;
    private static final int GREATEST = 0, BREAK = 1, BOWED = 2;

    public static void main(String[] args) {
        rowsAndPlaces();
        rowZero();
        notThere();
        partBeyond();
        partAtTheLimit();
        sumBeyond();
        tooGreatComesIn();
        numberTooGreat();
        all();
        signs();
        slant();
        squares();
        sumsNo();
        squaresNo();
        greatest();
        breakPlace();
        bowed();
        shapesNo();
        bowedNo();
        modulus();
        restRows();
        restRange();
        nothingTooGreat();
        sumAnswers();
        shapeAnswers();
        restAnswers();
        Due.end();
    }

    private static long number(String law, int n, int k) {
        return Due.withLaw(law).number(0, n, k);
    }

    private static long sum(String law, int n, int what) {
        return Due.withLaw(law).sum(0, n, what);
    }

    private static int shape(String law, int n, int what) {
        return Due.withLaw(law).shape(0, n, what);
    }

    /** A row as it must be, so that what is said of it is said of the right numbers. */
    private static CountTriangles withRow(String law, long... row) {
        CountTriangles x = Due.withLaw(law);
        int n = row.length - 1;
        for (int k = 0; k <= n; k++) {
            Due.due("row " + n + " of " + law + " at " + k, x.number(0, n, k), row[k]);
        }
        return x;
    }

    private static void shapeOf(int what, int want, String law, long... row) {
        CountTriangles x = withRow(law, row);
        Due.due("row " + (row.length - 1) + " of " + law, x.shape(0, row.length - 1, what), want);
    }

    private static void rowsAndPlaces() {
        Due.sentence("rows n 0 to 24, places k 0 to n.");
        CountTriangles x = Due.withLaw(CHOICES);
        for (int n = 0; n <= 24; n++) {
            Due.due("the first place of row " + n, x.number(0, n, 0), 1);
            Due.due("the last place of row " + n, x.number(0, n, n), 1);
            Due.due("behind the last place of row " + n, x.number(0, n, n + 1), Due.LONG_BAD);
            Due.due("ahead of the first place of row " + n, x.number(0, n, -1), Due.LONG_BAD);
        }
        Due.due("row 25", x.number(0, 25, 0), Due.LONG_BAD);
        Due.due("row 25", x.number(0, 25, 25), Due.LONG_BAD);
        Due.due("row -1", x.number(0, -1, 0), Due.LONG_BAD);
        Due.due("row -1", x.number(0, -1, -1), Due.LONG_BAD);
        for (int what = 0; what <= 3; what++) {
            Due.due("a sum of row 24", x.sum(0, 24, what) > Due.LONG_NO);
            Due.due("a sum of row 25", x.sum(0, 25, what), Due.LONG_BAD);
            Due.due("a sum of row -1", x.sum(0, -1, what), Due.LONG_BAD);
        }
        for (int what = 0; what <= 2; what++) {
            Due.due("a shape of row 24", x.shape(0, 24, what) != Due.BAD);
            Due.due("a shape of row 25", x.shape(0, 25, what), Due.BAD);
            Due.due("a shape of row -1", x.shape(0, -1, what), Due.BAD);
        }
    }

    private static void rowZero() {
        Due.sentence("Row 0 is the top number");
        CountTriangles x = Due.withLaw("a9,9,9;b9,9,9;s-7;");
        Due.due("number", x.number(0, 0, 0), -7);
        Due.due("ALL", x.sum(0, 0, ALL), -7);
        Due.due("SIGNS", x.sum(0, 0, SIGNS), -7);
        Due.due("SLANT", x.sum(0, 0, SLANT), -7);
        Due.due("SQUARES", x.sum(0, 0, SQUARES), 49);
        Due.due("GREATEST", x.shape(0, 0, GREATEST), 0);
        Due.due("BREAK", x.shape(0, 0, BREAK), Due.NONE);
        Due.due("BOWED", x.shape(0, 0, BOWED), Due.NONE);
        Due.due("rest", x.rest(0, 0, 0, 5), 3);
    }

    private static void notThere() {
        Due.sentence("T(n, k) is a (by n, k) times T(n - 1, k - 1) and b (by n, k) times T(n - 1, k)"
                + " (what is not there is 0).");
        // At place 0 there is nothing to the left, at place n nothing above.
        Due.due("place 0: b alone", number("a9,0,0;b2,0,0;", 5, 0), 32);
        Due.due("place n: a alone", number("a2,0,0;b9,0,0;", 5, 5), 32);
        CountTriangles x = Due.withLaw("a9,0,0;b2,0,0;");
        Due.due("the rest at place 0", x.rest(0, 5, 0, 10000), 32);
        Due.lay(x, 0, "a2,0,0;b9,0,0;");
        Due.due("the rest at place n", x.rest(0, 5, 5, 10000), 32);
        Due.lay(x, 0, "a9,0,0;b2,0,9;");
        Due.due("the rest at place 0, where k is 0", x.rest(0, 5, 0, 10000), 32);
        Due.due("row 1", number("a3,0,0;b5,0,0;s2;", 1, 0), 10);
        Due.due("row 1", number("a3,0,0;b5,0,0;s2;", 1, 1), 6);
    }

    private static void partBeyond() {
        Due.sentence("A number is TOO GREAT, if one of both parts that it is the sum of, or it,"
                + " is above 10 to the 17 or below less that");
        // T(17, 15) is 100000000691404800 less 847249408.
        Due.due("the left part above", number("a-2,6,-6;b-7,9,-3;s8;", 17, 15), Due.LONG_NO);
        Due.due("the left part below", number("a-2,6,-6;b-7,9,-3;s-8;", 17, 15), Due.LONG_NO);
        Due.due("it stands beside others", number("a-2,6,-6;b-7,9,-3;s8;", 17, 17) != Due.LONG_NO);
        // T(17, 2) has the same parts, the other way.
        Due.due("the right part above", number("a7,-6,-3;b-2,0,6;s8;", 17, 2), Due.LONG_NO);
        Due.due("the right part below", number("a7,-6,-3;b-2,0,6;s-8;", 17, 2), Due.LONG_NO);
        // T(14, 10) is -136273706767033920 and 133348864179365568.
        Due.due("both parts beyond, the sum not", number("a9,-6,6;b9,-9,5;s8;", 14, 10), Due.LONG_NO);
        // A part that a long would turn over: 432 times nearly 10 to the 17.
        CountTriangles x = Due.withLaw("a9,9,9;b9,9,9;s9;");
        for (int k = 0; k <= 24; k++) {
            Due.due("far beyond a long", x.number(0, 24, k), Due.LONG_NO);
        }
    }

    private static void partAtTheLimit() {
        Due.sentence("is above 10 to the 17 or below less that");
        // A part of just 10 to the 17, and less 68896484375000000.
        Due.due("the left part just 10 to the 17", number("a-5,5,-5;b2,2,3;s8;", 18, 15), 31103515625000000L);
        Due.due("the left part just less that", number("a-5,5,-5;b2,2,3;s-8;", 18, 15), -31103515625000000L);
        Due.due("the right part just 10 to the 17", number("a2,5,-3;b-5,0,5;s8;", 18, 3), 31103515625000000L);
        Due.due("the right part just less that", number("a2,5,-3;b-5,0,5;s-8;", 18, 3), -31103515625000000L);
        // T(n, 1) is 10 to the n less 1.
        Due.due("10 to the 17 less 1", number("a9,0,0;b1,0,9;", 17, 1), 99999999999999999L);
        Due.due("less 10 to the 17 and 1", number("a9,0,0;b1,0,9;s-1;", 17, 1), -99999999999999999L);
    }

    private static void sumBeyond() {
        Due.sentence("or it, is above 10 to the 17 or below less that");
        // T(12, 8) is 97358033203200000 and 2641967174246400.
        Due.due("the sum above, no part", number("a7,-6,5;b-2,9,-9;s7;", 12, 8), Due.LONG_NO);
        Due.due("the sum below, no part", number("a7,-6,5;b-2,9,-9;s-7;", 12, 8), Due.LONG_NO);
    }

    private static void tooGreatComesIn() {
        Due.sentence("or if one that is TOO GREAT comes in it, times other than 0.");
        // T(n, 0) is 9 to the n and 1, TOO GREAT from row 17 on; it comes n - 18 times in T(n, 1).
        CountTriangles x = Due.withLaw("a-9,1,-9;b9,0,-8;s9;");
        Due.due("9 to the 17", x.number(0, 16, 0), 16677181699666569L);
        Due.due("9 to the 18", x.number(0, 17, 0), Due.LONG_NO);
        Due.due("9 times that", x.number(0, 18, 0), Due.LONG_NO);
        long column = 0;
        for (long j = 1, power = 9; j <= 17; j++, power *= 9) {
            column += (j - 18) * power;
        }
        Due.due("not yet in T(17, 1)", x.number(0, 17, 1), column);
        Due.due("0 times in T(18, 1)", x.number(0, 18, 1), column);
        Due.due("once in T(19, 1)", x.number(0, 19, 1), Due.LONG_NO);
        Due.due("and so in T(20, 1)", x.number(0, 20, 1), Due.LONG_NO);
        // The same turned round: what is above comes n - 18 times in T(n, n - 1).
        Due.lay(x, 0, "a9,-8,8;b-9,-8,9;s9;");
        Due.due("9 to the 18", x.number(0, 17, 17), Due.LONG_NO);
        Due.due("not yet in T(17, 16)", x.number(0, 17, 16), column);
        Due.due("0 times in T(18, 17)", x.number(0, 18, 17), column);
        Due.due("once in T(19, 18)", x.number(0, 19, 18), Due.LONG_NO);
        // All of b is 0: what is TOO GREAT on the slope never comes in another number.
        Due.lay(x, 0, "a9,0,0;");
        for (int n = 18; n <= 24; n++) {
            Due.due("9 to the " + n, x.number(0, n, n), Due.LONG_NO);
            Due.due("beside it", x.number(0, n, n - 1), 0);
        }
        Due.lay(x, 0, "b-9,0,0;");
        for (int n = 18; n <= 24; n++) {
            Due.due("less 9 to the " + n, x.number(0, n, 0), Due.LONG_NO);
            Due.due("beside it", x.number(0, n, 1), 0);
        }
    }

    private static void numberTooGreat() {
        Due.sentence("T(n, k) of LAW l. NO: TOO GREAT; BAD.");
        CountTriangles x = new CountTriangles();
        for (int l = 0; l <= 3; l++) {
            Due.lay(x, l, "b9,0,0;s" + (l + 1) + ";");
            Due.due("LAW " + l, x.number(l, 0, 0), l + 1);
            Due.due("LAW " + l, x.number(l, 24, 0), Due.LONG_NO);
            Due.due("a place that is not there, of a row with TOO GREAT ones", x.number(l, 24, 25), Due.LONG_BAD);
            Due.due("a row that is not there", x.number(l, 25, 0), Due.LONG_BAD);
        }
        Due.due("LAW 4", x.number(4, 0, 0), Due.LONG_BAD);
        Due.due("LAW -1", x.number(-1, 0, 0), Due.LONG_BAD);
    }

    private static void all() {
        Due.sentence("ALL: its sum");
        Due.due("row 0", sum(CHOICES, 0, ALL), 1);
        Due.due("row 24, from the first place to the last", sum("a3,0,0;b2,0,0;", 24, ALL), 59604644775390625L);
        Due.due("a row of 0", sum("", 24, ALL), 0);
        Due.due("first and last count", sum("a1,0,0;", 24, ALL), 1);
        Due.due("first and last count", sum("b1,0,0;", 24, ALL), 1);
    }

    private static void signs() {
        Due.sentence("SIGNS: k even less k odd");
        Due.due("row 0", sum(CHOICES, 0, SIGNS), 1);
        Due.due("the last place even", sum("a1,0,0;", 24, SIGNS), 1);
        Due.due("the last place odd", sum("a1,0,0;", 23, SIGNS), -1);
        Due.due("place 0", sum("b1,0,0;", 23, SIGNS), 1);
        Due.due("numbers below 0", sum(SIGNED, 3, SIGNS), -8);
        Due.due("1 less 3", sum("a3,0,0;b1,0,0;", 1, SIGNS), -2);
    }

    private static void slant() {
        Due.sentence("SLANT n: T(n, 0) and T(n - 1, 1) and .. as far as there are places");
        Due.due("n 0: T(0, 0)", sum(CHOICES, 0, SLANT), 1);
        Due.due("n 1: T(1, 0) alone", sum("a3,0,0;b5,0,0;", 1, SLANT), 5);
        Due.due("n 2: T(2, 0) and T(1, 1)", sum("a3,0,0;b5,0,0;", 2, SLANT), 28);
        Due.due("n 3: T(3, 0) and T(2, 1)", sum("a3,0,0;b5,0,0;", 3, SLANT), 155);
        // All numbers of a row but the last are 0: only an even slant comes to one.
        Due.due("n 24: to T(12, 12)", sum("a2,0,0;", 24, SLANT), 4096);
        Due.due("n 23: to T(12, 11)", sum("a2,0,0;", 23, SLANT), 0);
        Due.due("n 24: from T(24, 0)", sum("b2,0,0;", 24, SLANT), 1 << 24);
        Due.due("n 24", sum(CHOICES, 24, SLANT), 75025);
    }

    private static void squares() {
        Due.sentence("SQUARES: the sum of numbers times themselves.");
        Due.due("row 0", sum("s-9;", 0, SQUARES), 81);
        Due.due("the last place", sum("a-2,0,0;", 24, SQUARES), 1L << 48);
        Due.due("the first place", sum("b-2,0,0;", 24, SQUARES), 1L << 48);
        Due.due("numbers below 0", sum(SIGNED, 3, SQUARES), 20);
        Due.due("a row of 0", sum("", 24, SQUARES), 0);
    }

    private static void sumsNo() {
        Due.sentence("(NO, if one of these numbers is TOO GREAT;");
        // 9 to the 18 is TOO GREAT: the last one of row 18, or the first one.
        for (String law : new String[] {"a9,0,0;", "b9,0,0;"}) {
            for (int what : new int[] {ALL, SIGNS, SQUARES}) {
                Due.due(law + " row 18", sum(law, 18, what), Due.LONG_NO);
            }
            Due.due(law + " row 17", sum(law, 17, ALL), 16677181699666569L);
        }
        Due.due("SIGNS of row 17", sum("a9,0,0;", 17, SIGNS), -16677181699666569L);
        Due.due("SIGNS of row 17", sum("b9,0,0;", 17, SIGNS), 16677181699666569L);
        // Only T(12, 8) of the row is TOO GREAT here, one in the midst of it.
        Due.due("one in the midst", sum("a7,-6,5;b-2,9,-9;s7;", 12, ALL), Due.LONG_NO);
        // SLANT asks for its own numbers, not for those of row n.
        Due.due("SLANT 18 passes T(18, 18)", sum("a9,0,0;", 18, SLANT), 387420489);
        Due.due("SLANT 18 begins with T(18, 0)", sum("b9,0,0;", 18, SLANT), Due.LONG_NO);
        // T(17, 1) is 17 times 9 to the 16, and not TOO GREAT.
        Due.due("SLANT 18 goes on with others", sum("a1,0,0;b9,0,0;", 18, SLANT), Due.LONG_NO);
        Due.due("SLANT 17 begins with T(17, 0)", sum("b9,0,0;", 17, SLANT), 16677181699666569L);
        // T(n, n) is 9 to the n and 1 times 1 2 .. n and 1: TOO GREAT from T(10, 10) on.
        Due.due("SLANT 18 ends with T(9, 9)", sum("a9,9,0;s9;", 18, SLANT), 12652843234348800L);
        Due.due("SLANT 20 ends with T(10, 10)", sum("a9,9,0;s9;", 20, SLANT), Due.LONG_NO);
        Due.due("SLANT 19 ends with T(10, 9)", sum("a9,9,0;s9;", 19, SLANT), 0);
        // The sum itself may be beyond 10 to the 17: 18 to the 14, and less that.
        Due.due("a sum above 10 to the 17", sum("a9,0,0;b9,0,0;", 14, ALL), 374813367582081024L);
        Due.due("a sum below less that", sum("a9,0,0;b9,0,0;s-1;", 14, ALL), -374813367582081024L);
        Due.due("so with SIGNS", sum("a-9,0,0;b9,0,0;", 14, SIGNS), 374813367582081024L);
    }

    private static void squaresNo() {
        Due.sentence("SQUARES also, if one is above 10 to the 8 or below less that.)");
        // T(10, 2) is just 10 to the 8, and the greatest of its row.
        Due.due("just 10 to the 8", sum("a2,2,-4;b-5,0,5;s2;", 10, SQUARES), 20811557382812500L);
        Due.due("just less 10 to the 8", sum("a2,2,-4;b-5,0,5;s-2;", 10, SQUARES), 20811557382812500L);
        // T(9, 3) is 100000008, and no other of its row comes near it.
        Due.due("10 to the 8 and 8", sum("a6,-1,0;b-2,1,1;s9;", 9, SQUARES), Due.LONG_NO);
        Due.due("less 10 to the 8 and 8", sum("a6,-1,0;b-2,1,1;s-9;", 9, SQUARES), Due.LONG_NO);
        Due.due("ALL of that row", sum("a6,-1,0;b-2,1,1;s9;", 9, ALL), 119391156);
        Due.due("9 to the 8, the last", sum("a9,0,0;", 8, SQUARES), 43046721L * 43046721L);
        Due.due("9 to the 9, the last", sum("a9,0,0;", 9, SQUARES), Due.LONG_NO);
        Due.due("less 9 to the 9, the first", sum("b-9,0,0;", 9, SQUARES), Due.LONG_NO);
        Due.due("SLANT has no such limit", sum("b9,0,0;", 9, SLANT), 387420489);
    }

    private static void greatest() {
        Due.sentence("GREATEST: the first place of the greatest number.");
        shapeOf(GREATEST, 3, CHOICES, 1, 7, 21, 35, 35, 21, 7, 1);
        shapeOf(GREATEST, 0, "a0,0,1;b0,1,-1;", 24, 24, 24, 24, 24);
        shapeOf(GREATEST, 0, "", 0, 0, 0);
        shapeOf(GREATEST, 3, "a1,0,0;", 0, 0, 0, 1);
        shapeOf(GREATEST, 0, "a-1,0,0;", 0, 0, 0, -1);
        shapeOf(GREATEST, 0, "b1,0,0;", 1, 0, 0);
        shapeOf(GREATEST, 0, "a-1,0,0;b-1,0,0;", -1, -3, -3, -1);
        shapeOf(GREATEST, 1, "b-1,0,0;", -1, 0);
        Due.due("the last of row 24", shape("a1,0,0;", 24, GREATEST), 24);
    }

    private static void breakPlace() {
        Due.sentence("BREAK: the first place behind which the row rises again, though it fell somewhere ahead; none.");
        shapeOf(BREAK, 1, SIGNED, 1, -2, 1);
        // Behind its last place but one.
        shapeOf(BREAK, 2, SIGNED, -1, 3, -3, 1);
        // It rises behind 1 and behind 3: the first.
        shapeOf(BREAK, 1, SIGNED, 1, -4, 6, -4, 1);
        shapeOf(BREAK, 1, "a-1,0,0;b0,0,1;", 0, -1, 7, -6, 1);
        // Level places between the fall and the rise.
        shapeOf(BREAK, 2, "a-1,0,0;b-1,0,0;", -1, -3, -3, -1);
        shapeOf(BREAK, 2, "a0,0,1;b1,0,-1;", 1, 1, 0, 6);
        shapeOf(BREAK, 2, "a0,0,1;b-2,1,0;", 0, -2, -2, 12, 24);
        // Level is no rise, and a fall that ends the row is none that it rises behind.
        shapeOf(BREAK, Due.NONE, "a3,1,-3;b1,0,0;", 1, 10, 5, 5, -15);
        shapeOf(BREAK, Due.NONE, "a0,1,0;b0,1,0;", 6, 18, 18, 6);
        shapeOf(BREAK, Due.NONE, "a0,0,1;b0,1,-1;", 24, 24, 24, 24, 24);
        shapeOf(BREAK, Due.NONE, "b1,0,0;", 1, 0, 0);
        shapeOf(BREAK, Due.NONE, "a1,0,0;", 0, 0, 0, 1);
        shapeOf(BREAK, Due.NONE, "", 1);
        shapeOf(BREAK, Due.NONE, "a1,0,0;b2,0,0;", 2, 1);
        Due.due("the first of 12 in row 24", shape(SIGNED, 24, BREAK), 1);
    }

    private static void bowed() {
        Due.sentence("BOWED: the first place k (1 to n - 1) whose number times itself is less than"
                + " the product of both beside it; none.");
        shapeOf(BOWED, 1, "a0,-1,2;b0,1,0;", 6, 4, 8, 6);
        shapeOf(BOWED, 1, "a0,0,1;b-1,0,1;", 1, -1, 2, 12, 24);
        // At n - 1 alone.
        shapeOf(BOWED, 2, "a0,0,1;b-1,0,1;", -1, 1, 0, 6);
        shapeOf(BOWED, 3, "a0,1,0;b-1,0,1;", 1, -4, 8, -4, 24);
        shapeOf(BOWED, 4, "a0,1,0;b0,-1,2;", -120, 240, -232, 156, 52, 120);
        // At 2 and at 3: the first.
        shapeOf(BOWED, 2, "a-3,0,2;b0,-1,1;", 24, 24, -12, 12, -15);
        // By 1 alone: 0 0 and 1 1.
        shapeOf(BOWED, 2, "a1,0,0;b-1,0,1;", -1, 1, 0, 1);
        // Just as much is not less.
        shapeOf(BOWED, Due.NONE, "a0,0,1;b0,1,-1;", 24, 24, 24, 24, 24);
        shapeOf(BOWED, Due.NONE, "a-1,0,2;b1,0,0;", 1, 3, 9, 15);
        shapeOf(BOWED, Due.NONE, "", 0, 0, 0);
        // Rows 0 and 1 have no place with two beside it.
        shapeOf(BOWED, Due.NONE, "s9;", 9);
        shapeOf(BOWED, Due.NONE, "a9,0,0;b9,0,0;s9;", 81, 81);
        Due.due("row 24", shape(CHOICES, 24, BOWED), Due.NONE);
    }

    private static void shapesNo() {
        Due.sentence("(NO, if a number of the row is TOO GREAT;");
        for (String law : new String[] {"a9,0,0;", "b9,0,0;", "a-9,0,0;"}) {
            for (int what = 0; what <= 2; what++) {
                Due.due("row 18 of " + law, shape(law, 18, what), Due.NO);
            }
            Due.due("row 17 of " + law, shape(law, 17, BREAK), Due.NONE);
        }
        Due.due("the greatest of row 17", shape("a9,0,0;", 17, GREATEST), 17);
        Due.due("the greatest of row 17", shape("b9,0,0;", 17, GREATEST), 0);
        for (int what = 0; what <= 2; what++) {
            Due.due("one in the midst", shape("a7,-6,5;b-2,9,-9;s7;", 12, what), Due.NO);
        }
        // Row 19 of signed rings rises and falls by turns long ahead of what is TOO GREAT.
        CountTriangles x = Due.withLaw("a1,0,0;b1,-1,0;");
        Due.due("a break in row 19", x.shape(0, 19, BREAK) > 0);
        Due.due("NO, though a break is met ahead", x.shape(0, 24, BREAK), Due.NO);
    }

    private static void bowedNo() {
        Due.sentence("BOWED as SQUARES.)");
        Due.due("just 10 to the 8", shape("a2,2,-4;b-5,0,5;s2;", 10, BOWED), Due.NONE);
        Due.due("just less 10 to the 8", shape("a2,2,-4;b-5,0,5;s-2;", 10, BOWED), Due.NONE);
        Due.due("10 to the 8 and 8", shape("a6,-1,0;b-2,1,1;s9;", 9, BOWED), Due.NO);
        Due.due("less 10 to the 8 and 8", shape("a6,-1,0;b-2,1,1;s-9;", 9, BOWED), Due.NO);
        Due.due("BREAK of that row", shape("a6,-1,0;b-2,1,1;s9;", 9, BREAK), 5);
        Due.due("GREATEST of that row", shape("a6,-1,0;b-2,1,1;s9;", 9, GREATEST), 3);
        Due.due("9 to the 9, the last", shape("a9,0,0;", 9, BOWED), Due.NO);
        Due.due("9 to the 9, the first", shape("b9,0,0;", 9, BOWED), Due.NO);
        Due.due("9 to the 8", shape("b9,0,0;", 8, BOWED), Due.NONE);
    }

    private static void modulus() {
        Due.sentence("RESTS: T(n, k) by M (2 to 10000)");
        CountTriangles x = Due.withLaw("s7;");
        Due.due("by 2", x.rest(0, 0, 0, 2), 1);
        Due.due("by 10000", x.rest(0, 0, 0, 10000), 7);
        Due.due("by 7", x.rest(0, 0, 0, 7), 0);
        for (int m : new int[] {1, 0, -1, -2, 10001, Integer.MIN_VALUE, Integer.MAX_VALUE}) {
            Due.due("by " + m, x.rest(0, 0, 0, m), Due.BAD);
        }
    }

    private static void restRows() {
        Due.sentence("n to 60");
        CountTriangles x = Due.withLaw(CHOICES);
        Due.due("row 60, place 0", x.rest(0, 60, 0, 10), 1);
        Due.due("row 60, place 1", x.rest(0, 60, 1, 100), 60);
        Due.due("row 60, place 59", x.rest(0, 60, 59, 100), 60);
        Due.due("row 60, place 60", x.rest(0, 60, 60, 10), 1);
        Due.due("row 60, place 61", x.rest(0, 60, 61, 10), Due.BAD);
        Due.due("row 60, place -1", x.rest(0, 60, -1, 10), Due.BAD);
        Due.due("row 61", x.rest(0, 61, 0, 10), Due.BAD);
        Due.due("row 61", x.rest(0, 61, 61, 10), Due.BAD);
        Due.due("row 25", x.rest(0, 25, 1, 100), 25);
        Due.due("row 0", x.rest(0, 0, 0, 10), 1);
        Due.due("row 0, place 1", x.rest(0, 0, 1, 10), Due.BAD);
        Due.due("row -1", x.rest(0, -1, 0, 10), Due.BAD);
        Due.due("30 of 60", x.rest(0, 60, 30, 10000), 1424);
    }

    private static void restRange() {
        Due.sentence("the rest is 0 to M - 1");
        CountTriangles x = Due.withLaw("s-1;b-1,0,0;");
        Due.due("-1 by 10000", x.rest(0, 0, 0, 10000), 9999);
        Due.due("1 by 10000", x.rest(0, 1, 0, 10000), 1);
        Due.due("-1 by 2", x.rest(0, 60, 0, 2), 1);
        Due.lay(x, 0, "a-5,0,0;s-2;");
        Due.due("10 by 10", x.rest(0, 1, 1, 10), 0);
        Due.due("-50 by 10", x.rest(0, 2, 2, 10), 0);
        Due.due("-50 by 7", x.rest(0, 2, 2, 7), 6);
        Due.due("-50 by 51", x.rest(0, 2, 2, 51), 1);
        Due.due("-50 by 50", x.rest(0, 2, 2, 50), 0);
        // Factors of less 1071 at most: rests of the greatest kind meet the greatest factors.
        Due.lay(x, 0, "a-9,-9,-9;b-9,-9,-9;s-9;");
        for (int k = 0; k <= 60; k++) {
            int rest = x.rest(0, 60, k, 9973);
            Due.due("in range at " + k, rest >= 0 && rest < 9973);
        }
    }

    private static void nothingTooGreat() {
        Due.sentence("(nothing is TOO GREAT then)");
        CountTriangles x = Due.withLaw("a9,0,0;");
        Due.due("9 to the 18 is TOO GREAT", x.number(0, 18, 18), Due.LONG_NO);
        // 9 to the 18 is 150094635296999121.
        Due.due("but has a rest", x.rest(0, 18, 18, 10000), 9121);
        Due.due("9 to the 60", x.rest(0, 60, 60, 10000), 6401);
        Due.lay(x, 0, "b9,0,0;s9;");
        Due.due("9 to the 61 by 10", x.rest(0, 60, 0, 10), 9);
        Due.lay(x, 0, CHOICES);
        Due.due("30 of 60 by 9973", x.rest(0, 60, 30, 9973), (int) (118264581564861424L % 9973));
    }

    private static void sumAnswers() {
        Due.sentence("Of row n: ALL (what = 0), SIGNS (1), SLANT (2), SQUARES (3). NO; BAD.");
        // Rows 5, 3 and 25, 30, 9.
        CountTriangles x = withRow("a3,0,0;b5,0,0;", 25, 30, 9);
        Due.due("what 0", x.sum(0, 2, 0), 64);
        Due.due("what 1", x.sum(0, 2, 1), 4);
        Due.due("what 2", x.sum(0, 2, 2), 28);
        Due.due("what 3", x.sum(0, 2, 3), 1606);
        for (int what : new int[] {-1, 4, Integer.MIN_VALUE, Integer.MAX_VALUE}) {
            Due.due("what " + what, x.sum(0, 2, what), Due.LONG_BAD);
            Due.due("BAD comes ahead of NO", x.sum(0, 24, what), Due.LONG_BAD);
        }
        for (int what = 0; what <= 3; what++) {
            Due.due("NO", x.sum(0, 24, what), Due.LONG_NO);
            Due.due("LAW 4", x.sum(4, 2, what), Due.LONG_BAD);
            Due.due("LAW -1", x.sum(-1, 2, what), Due.LONG_BAD);
            Due.due("LAW 3", x.sum(3, 0, what), 1);
            Due.due("row 25", x.sum(0, 25, what), Due.LONG_BAD);
            Due.due("row -1", x.sum(0, -1, what), Due.LONG_BAD);
        }
    }

    private static void shapeAnswers() {
        Due.sentence("Of row n: GREATEST (what = 0), BREAK (1), BOWED (2). NONE; NO; BAD.");
        // It falls to -4 at 1 and rises behind it; only 8 times 24 is more than 4 times 4.
        CountTriangles x = withRow("a0,1,0;b-1,0,1;", 1, -4, 8, -4, 24);
        Due.due("what 0", x.shape(0, 4, 0), 4);
        Due.due("what 1", x.shape(0, 4, 1), 1);
        Due.due("what 2", x.shape(0, 4, 2), 3);
        for (int what : new int[] {-1, 3, Integer.MIN_VALUE, Integer.MAX_VALUE}) {
            Due.due("what " + what, x.shape(0, 4, what), Due.BAD);
            Due.due("BAD comes ahead of NO", x.shape(0, 24, what), Due.BAD);
        }
        for (int what = 0; what <= 2; what++) {
            Due.due("NO", x.shape(0, 24, what), Due.NO);
            Due.due("LAW 4", x.shape(4, 4, what), Due.BAD);
            Due.due("LAW -1", x.shape(-1, 4, what), Due.BAD);
            Due.due("LAW 3", x.shape(3, 4, what), what == GREATEST ? 0 : Due.NONE);
            Due.due("row 25", x.shape(0, 25, what), Due.BAD);
            Due.due("row -1", x.shape(0, -1, what), Due.BAD);
        }
    }

    private static void restAnswers() {
        Due.sentence("RESTS. BAD.");
        CountTriangles x = Due.withLaw(CHOICES);
        int[] far = {Integer.MIN_VALUE, -1, 61, Integer.MAX_VALUE};
        for (int wrong : far) {
            Due.due("n " + wrong, x.rest(0, wrong, 0, 7), Due.BAD);
            Due.due("k " + wrong, x.rest(0, 60, wrong, 7), Due.BAD);
            Due.due("LAW " + wrong, x.rest(wrong, 60, 0, 7), Due.BAD);
        }
        Due.due("LAW 4", x.rest(4, 0, 0, 7), Due.BAD);
        Due.due("LAW 3", x.rest(3, 0, 0, 7), 1);
        Due.due("k above n", x.rest(0, 59, 60, 7), Due.BAD);
        Due.due("k is n", x.rest(0, 59, 59, 7), 1);
        Due.due("M 1", x.rest(0, 60, 30, 1), Due.BAD);
        Due.due("M 10001", x.rest(0, 60, 30, 10001), Due.BAD);
    }
}
