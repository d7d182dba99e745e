/** TIMES, UNDOES and BACK (promises 10 to 12): a test for each sentence that names a boundary case. */
public final class ProductBoundariesTest {
    private static final String CHOICES = "a1,0,0;b1,0,0;";
    private static final String SIGNED_CHOICES = "a1,0,0;b-1,0,0;";
    private static final String PARTS = "a1,0,0;b0,0,1;";
    private static final String RINGS = "a1,0,0;b-1,1,0;";
    private static final String SIGNED_RINGS = "a1,0,0;b1,-1,0;";
    // 1 in every last place, 0 elsewhere; and 1 in every first place.
    private static final String LAST_ONES = "a1,0,0;";
    private static final String FIRST_ONES = "b1,0,0;";
    private static final long E17 = 100_000_000_000_000_000L;

    public static void main(String[] args) {
        timesEnds();
        timesRows();
        timesTooGreat();
        timesProducts();
        timesAnswers();
        undoesRows();
        undoesLastAndAhead();
        undoesNo();
        undoesAnswers();
        backDiagonal();
        backLastNumbers();
        backTooGreat();
        backProductsAndNumbers();
        backAnswers();
        Due.end();
    }

    private static CountTriangles with(String a, String b) {
        CountTriangles x = Due.withLaw(a);
        Due.lay(x, 1, b);
        return x;
    }

    private static long times(String a, String b, int n, int k) {
        return with(a, b).times(0, 1, n, k);
    }

    private static int undoes(String a, String b, int n) {
        return with(a, b).undoes(0, 1, n);
    }

    private static long back(String a, int n, int k) {
        return Due.withLaw(a).back(0, n, k);
    }

    private static void timesEnds() {
        Due.sentence("A(n, k) B(k, k) and A(n, k + 1) B(k + 1, k) and .. to A(n, n) B(n, k)");
        Due.due("one product at (n, n)", times("a2,0,0;b1,0,0;", "a3,0,0;b1,0,0;", 5, 5), 32 * 243);
        Due.due("row 0", times("s3;", "s-5;", 0, 0), -15);
        // Only A(n, 0) is there: the first product alone.
        Due.due("from A(n, k) B(k, k)", times("b2,0,0;", "s7;b9,0,0;", 4, 0), 16 * 7);
        Due.due("from A(n, k) B(k, k)", times("b2,0,0;", "s7;b9,0,0;", 4, 1), 0);
        // Only A(n, n) is there: the last product alone.
        Due.due("to A(n, n) B(n, k)", times("a2,0,0;", "b3,0,0;", 4, 0), 16 * 81);
        Due.due("A(3, 1) B(1, 1) and A(3, 2) B(2, 1) and A(3, 3) B(3, 1)", times(PARTS, CHOICES, 3, 1), 1 + 6 + 3);
        Due.due("the other way", times(CHOICES, PARTS, 3, 1), 3 + 3 + 1);
    }

    private static void timesRows() {
        Due.sentence("(n to 24)");
        CountTriangles x = with(CHOICES, CHOICES);
        Due.due("(24, 0)", x.times(0, 1, 24, 0), 1 << 24);
        Due.due("(24, 23)", x.times(0, 1, 24, 23), 48);
        Due.due("(24, 24)", x.times(0, 1, 24, 24), 1);
        Due.due("(24, 25)", x.times(0, 1, 24, 25), Due.LONG_BAD);
        Due.due("(25, 0)", x.times(0, 1, 25, 0), Due.LONG_BAD);
        Due.due("(25, 25)", x.times(0, 1, 25, 25), Due.LONG_BAD);
        Due.due("(0, 0)", x.times(0, 1, 0, 0), 1);
        Due.due("(0, 1)", x.times(0, 1, 0, 1), Due.LONG_BAD);
        Due.due("(-1, 0)", x.times(0, 1, -1, 0), Due.LONG_BAD);
        Due.due("(5, -1)", x.times(0, 1, 5, -1), Due.LONG_BAD);
    }

    private static void timesTooGreat() {
        Due.sentence("(NO, if one of these is TOO GREAT");
        // The last numbers of a9,0,0; are TOO GREAT from row 18 on, the first ones of b9,0,0;, too.
        Due.due("A(17, 17)", times("a9,0,0;", LAST_ONES, 17, 17), 16677181699666569L);
        Due.due("A(18, 18)", times("a9,0,0;", LAST_ONES, 18, 18), Due.LONG_NO);
        Due.due("B(18, 18)", times(LAST_ONES, "a9,0,0;", 18, 18), Due.LONG_NO);
        Due.due("B(17, 17)", times(LAST_ONES, "a9,0,0;", 17, 17), 16677181699666569L);
        // It is one of these, though the other number is 0.
        Due.due("A(18, 18) times 0", times("a9,0,0;", LAST_ONES, 18, 0), Due.LONG_NO);
        Due.due("A(17, 17) times 0", times("a9,0,0;", LAST_ONES, 17, 0), 0);
        Due.due("0 times B(18, 0)", times(FIRST_ONES, "b9,0,0;", 18, 0), Due.LONG_NO);
        Due.due("0 times B(17, 0)", times(FIRST_ONES, "b9,0,0;", 17, 0), 1);
        // A(18, 0) is none of these, if k is 1; B(18, 18) none, if k is less or n is.
        Due.due("A(18, 0) stands ahead of k", times("b9,0,0;", LAST_ONES, 18, 1), 0);
        Due.due("A(18, 0) stands at k", times("b9,0,0;", LAST_ONES, 18, 0), Due.LONG_NO);
        Due.due("B(18, 18) stands in another column", times(LAST_ONES, "a9,0,0;", 18, 17), 0);
        Due.due("B(18, 0) stands below n", times(LAST_ONES, "b9,0,0;", 17, 0), 16677181699666569L);
    }

    private static void timesProducts() {
        Due.sentence("or one of the products is above 10 to the 17 or below less that.)");
        // Only A(17, 17), 2 to the 17, and B(17, 0), 5 to the 17, count.
        Due.due("just 10 to the 17", times("a2,0,0;", "b5,0,0;", 17, 0), E17);
        Due.due("just less 10 to the 17", times("a2,0,0;", "b5,0,0;s-1;", 17, 0), -E17);
        // A(8, 8) is 43403901242625, B(8, 0) is 2304: 100002588463008000.
        Due.due("43403901242625 in A", times("a-7,8,8;", LAST_ONES, 8, 8), 43403901242625L);
        Due.due("2304 in B", times(LAST_ONES, "b-2,0,0;s9;", 8, 0), 2304);
        Due.due("above", times("a-7,8,8;", "b-2,0,0;s9;", 8, 0), Due.LONG_NO);
        Due.due("below less that", times("a-7,8,8;", "b-2,0,0;s-9;", 8, 0), Due.LONG_NO);
        Due.due("beyond a long", times("a9,0,0;", "a9,0,0;", 17, 17), Due.LONG_NO);
        // The sum of products may be beyond: 18 to the 14, its numbers each times 1.
        Due.due("a sum above 10 to the 17", times("a9,0,0;b9,0,0;", FIRST_ONES, 14, 0), 374813367582081024L);
        Due.due("a sum below less that", times("a9,0,0;b9,0,0;s-1;", FIRST_ONES, 14, 0), -374813367582081024L);
    }

    private static void timesAnswers() {
        Due.sentence("A TIMES B at (n, k). NO; BAD.");
        CountTriangles x = with("a9,0,0;", PARTS);
        for (int wrong : new int[] {-1, 4}) {
            Due.due("A " + wrong, x.times(wrong, 1, 3, 1), Due.LONG_BAD);
            Due.due("B " + wrong, x.times(1, wrong, 3, 1), Due.LONG_BAD);
            Due.due("BAD comes ahead of NO", x.times(0, wrong, 18, 18), Due.LONG_BAD);
            Due.due("BAD comes ahead of NO", x.times(wrong, 0, 18, 18), Due.LONG_BAD);
        }
        Due.due("A and B may be the same", x.times(1, 1, 3, 2), 6);
        Due.due("NO", x.times(0, 0, 18, 18), Due.LONG_NO);
        Due.due("A and B may be 3", x.times(3, 3, 0, 0), 1);
    }

    private static void undoesRows() {
        Due.sentence("UNDOES: the first row up to n (0 to 24)");
        CountTriangles x = with(CHOICES, SIGNED_CHOICES);
        Due.due("to 24", x.undoes(0, 1, 24), Due.NONE);
        Due.due("to 0", x.undoes(0, 1, 0), Due.NONE);
        Due.due("to 25", x.undoes(0, 1, 25), Due.BAD);
        Due.due("to -1", x.undoes(0, 1, -1), Due.BAD);
        // Parts twice have 2 at (2, 1).
        Due.due("to 2, row 2", undoes(PARTS, PARTS, 2), 2);
        Due.due("to 1, ahead of row 2", undoes(PARTS, PARTS, 1), Due.NONE);
        Due.due("to 24, the first of many", undoes(PARTS, PARTS, 24), 2);
        Due.due("row 0", undoes("s2;", LAST_ONES, 0), 0);
        Due.due("row 0, the first of many", undoes("s2;", LAST_ONES, 24), 0);
    }

    private static void undoesLastAndAhead() {
        Due.sentence("in which A TIMES B is not 1 at its last place and 0 ahead; none;");
        Due.due("1 at each last place, 0 ahead", undoes(LAST_ONES, LAST_ONES, 24), Due.NONE);
        Due.due("-1 and -1 make 1", undoes("a-1,0,0;s-1;", "a-1,0,0;s-1;", 24), Due.NONE);
        Due.due("2 at the last place of row 1", undoes("a2,0,0;", LAST_ONES, 24), 1);
        Due.due("0 at the last place of row 1", undoes("", LAST_ONES, 24), 1);
        Due.due("-1 at the last place of row 1", undoes("a-1,0,0;", LAST_ONES, 24), 1);
        Due.due("-1 at the last place of row 0", undoes("s-1;", LAST_ONES, 24), 0);
        Due.due("0 at the last place of row 0", undoes("s0;", LAST_ONES, 24), 0);
        Due.due("1 at (1, 0), the last place right", undoes(CHOICES, LAST_ONES, 24), 1);
        Due.due("-1 at (1, 0)", undoes(SIGNED_CHOICES, LAST_ONES, 24), 1);
        // Row 2 has 0, 1, 1: only the place ahead of the last is wrong.
        Due.due("1 at (2, 1)", undoes(PARTS, LAST_ONES, 24), 2);
        // The last numbers of rows 1 and 2 are 1 and 2, with 0 ahead.
        Due.due("2 at the last place of row 2", undoes("a0,0,1;", LAST_ONES, 24), 2);
    }

    private static void undoesNo() {
        Due.sentence("NO, if that is met first, row by row, place by place.");
        // Rings undo parts in all rows; products are beyond from row 19 on, the other way from row 18 on.
        Due.due("to row 18", undoes(SIGNED_RINGS, PARTS, 18), Due.NONE);
        Due.due("met in row 19", undoes(SIGNED_RINGS, PARTS, 19), Due.NO);
        Due.due("met in row 19", undoes(SIGNED_RINGS, PARTS, 24), Due.NO);
        Due.due("to row 17", undoes(PARTS, SIGNED_RINGS, 17), Due.NONE);
        Due.due("met in row 18", undoes(PARTS, SIGNED_RINGS, 18), Due.NO);
        // What is TOO GREAT stands in row 18, but rows 1 and 2 are not undone.
        Due.due("row 1 is met ahead of it", undoes("a9,0,0;", "a9,0,0;", 24), 1);
        Due.due("row 1 is met ahead of it", undoes("a1,0,0;b9,9,9;", LAST_ONES, 24), 1);
        Due.due("row 2 is met ahead of it", undoes(RINGS, RINGS, 24), 2);
    }

    private static void undoesAnswers() {
        Due.sentence("UNDOES. NONE; NO: TOO GREAT ahead of it; BAD.");
        CountTriangles x = with(SIGNED_RINGS, PARTS);
        Due.due("NONE", x.undoes(0, 1, 18), Due.NONE);
        Due.due("NO", x.undoes(0, 1, 19), Due.NO);
        Due.due("BAD comes ahead of NO", x.undoes(0, 1, 25), Due.BAD);
        for (int wrong : new int[] {-1, 4}) {
            Due.due("A " + wrong, x.undoes(wrong, 1, 19), Due.BAD);
            Due.due("B " + wrong, x.undoes(0, wrong, 19), Due.BAD);
        }
        Due.due("A and B may be 3", x.undoes(3, 3, 0), Due.NONE);
        Due.due("a row", x.undoes(3, 3, 24), 1);
    }

    private static void backDiagonal() {
        Due.sentence("X(k, k) is A(k, k); X(m, k) for m above k is the sum of A(m, j) X(j, k),"
                + " j from k to m - 1, times less A(m, m).");
        for (int k = 0; k <= 24; k++) {
            Due.due("1 at " + k, back(CHOICES, k, k), 1);
            Due.due("signs by turns at " + k, back("a-1,0,0;b1,0,0;", k, k), k % 2 == 0 ? 1 : -1);
        }
        Due.due("-1 at the top", back("a1,0,0;s-1;", 0, 0), -1);
        // X(1, 0) is A(1, 0) X(0, 0) times less A(1, 1): 3 times less 1, or 3 times 1.
        Due.due("less 3", back("a1,0,0;b3,0,0;", 1, 0), -3);
        Due.due("3", back("a-1,0,0;b3,0,0;", 1, 0), 3);
        Due.due("A and X with less than 0", back("a1,0,0;b3,0,0;s-1;", 1, 0), 3);
        // X(3, 1) is A(3, 1) X(1, 1) and A(3, 2) X(2, 1), less: 1 and 3 times less 1.
        Due.due("2", back(PARTS, 3, 1), 2);
        Due.due("the last row", back(CHOICES, 24, 0), 1);
        Due.due("the last row but one", back(CHOICES, 23, 0), -1);
    }

    private static void backLastNumbers() {
        Due.sentence("(NO, if a last number of A's rows 0 to n is not 1 or -1;");
        for (int top : new int[] {-9, -2, 0, 2, 9}) {
            Due.due("top " + top, back("a1,0,0;s" + top + ";", 0, 0), Due.LONG_NO);
            Due.due("rows ahead of k, too: top " + top, back("a1,0,0;s" + top + ";", 7, 7), Due.LONG_NO);
        }
        Due.due("top 1", back("a1,0,0;s1;", 7, 7), 1);
        Due.due("top -1", back("a1,0,0;s-1;", 7, 7), -1);
        // Last numbers 1, 1, 2: rows 0 and 1 alone are so.
        Due.due("row 1 of 1, 1, 2", back("a0,0,1;b1,0,0;", 1, 0), -1);
        Due.due("row 2 of 1, 1, 2", back("a0,0,1;b1,0,0;", 2, 0), Due.LONG_NO);
        Due.due("row 2 of 1, 1, 2", back("a0,0,1;b1,0,0;", 2, 2), Due.LONG_NO);
        // Last numbers 1, 1, 0.
        Due.due("row 1 of 1, 1, 0", back("a2,-1,0;b1,0,0;", 1, 1), 1);
        Due.due("row 2 of 1, 1, 0", back("a2,-1,0;b1,0,0;", 2, 2), Due.LONG_NO);
        Due.due("row 3 of 1, 1, 0, 0", back("a2,-1,0;b1,0,0;", 3, 0), Due.LONG_NO);
    }

    private static void backTooGreat() {
        Due.sentence("if an A(m, j) for it, m to n, is TOO GREAT;");
        // 19! stands at (20, 1) of the rings and is TOO GREAT; all of column 0 below the top is 0.
        Due.due("A(19, 1) is not", back(RINGS, 19, 1), 1);
        Due.due("A(20, 1) is", back(RINGS, 20, 1), Due.LONG_NO);
        Due.due("A(20, 1) is one of m to n", back(RINGS, 21, 1), Due.LONG_NO);
        // For column 0 it comes X(1, 0) times, 0: it is one for it all the same.
        Due.due("A(19, 1) comes 0 times", back(RINGS, 19, 0), 0);
        Due.due("A(20, 1) comes 0 times", back(RINGS, 20, 0), Due.LONG_NO);
        // Columns behind it don't ask for it.
        Due.due("A(20, 1) is none for column 19", back(RINGS, 20, 19), -190);
        Due.due("A(20, 1) is none for column 20", back(RINGS, 20, 20), 1);
        Due.due("A(24, 1) is none for column 24", back(RINGS, 24, 24), 1);
        Due.due("A(24, 1) is none for column 23", back(RINGS, 24, 23), -276);
    }

    private static void backProductsAndNumbers() {
        Due.sentence("if a product or an X is above 10 to the 17 or below less that.)");
        Due.due("10 to the 17 less 1", back("a-1,-9,9;b0,9,-9;", 17, 16), E17 - 1);
        Due.due("less 10 to the 17 and 1", back("a-1,-9,9;b-9,0,0;", 17, 16), 1 - E17);
        // A product of 100003017396894480 for X(17, 14), which would be less 20749972406594472.
        Due.due("a product above", back("a1,-3,3;b6,0,0;", 17, 14), Due.LONG_NO);
        Due.due("a product below", back("a1,-3,3;b-6,0,0;", 17, 14), Due.LONG_NO);
        Due.due("the row ahead", back("a1,-3,3;b6,0,0;", 16, 14) != Due.LONG_NO);
        Due.due("the row ahead", back("a1,-3,3;b-6,0,0;", 16, 14) != Due.LONG_NO);
        // X(7, 2) would be 100008576839666560, X(24, 22) less 100002641480964417; no product is beyond.
        Due.due("an X above", back("a-1,-5,5;b4,-2,0;", 7, 2), Due.LONG_NO);
        Due.due("an X below", back("a1,-3,3;b-8,2,-7;", 24, 22), Due.LONG_NO);
        Due.due("the row ahead", back("a-1,-5,5;b4,-2,0;", 6, 2) != Due.LONG_NO);
        Due.due("the row ahead", back("a1,-3,3;b-8,2,-7;", 23, 22) != Due.LONG_NO);
        // What is met on the way to n counts, too.
        Due.due("a row behind", back("a-1,-5,5;b4,-2,0;", 8, 2), Due.LONG_NO);
        Due.due("a row behind", back("a1,-3,3;b6,0,0;", 18, 14), Due.LONG_NO);
        Due.due("another column", back("a-1,-5,5;b4,-2,0;", 8, 8), 1);
    }

    private static void backAnswers() {
        Due.sentence("BACK of A at (n, k). NO; BAD.");
        CountTriangles x = Due.withLaw("a2,0,0;");
        Due.due("NO", x.back(0, 5, 5), Due.LONG_NO);
        Due.due("BAD comes ahead of NO", x.back(0, 5, 6), Due.LONG_BAD);
        Due.due("BAD comes ahead of NO", x.back(0, 5, -1), Due.LONG_BAD);
        Due.due("BAD comes ahead of NO", x.back(0, 25, 5), Due.LONG_BAD);
        Due.due("(-1, 0)", x.back(0, -1, 0), Due.LONG_BAD);
        Due.due("LAW 4", x.back(4, 0, 0), Due.LONG_BAD);
        Due.due("LAW -1", x.back(-1, 0, 0), Due.LONG_BAD);
        Due.due("LAW 3", x.back(3, 0, 0), 1);
        Due.due("LAW 3 has 0 at (1, 1)", x.back(3, 1, 0), Due.LONG_NO);
        Due.lay(x, 3, CHOICES);
        Due.due("(24, 24)", x.back(3, 24, 24), 1);
        Due.due("(24, 25)", x.back(3, 24, 25), Due.LONG_BAD);
        Due.due("(24, 0)", x.back(3, 24, 0), 1);
        Due.due("(0, 0)", x.back(3, 0, 0), 1);
    }
}
