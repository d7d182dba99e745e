/** PARTINGS and ORDERS (promises 13 to 19): a test for each sentence that names a boundary case. */
public final class CountedBoundariesTest {
    private static final int LEAST = Integer.MIN_VALUE;
    private static final int MOST = Integer.MAX_VALUE;
    private static final int RINGS = 0, FALLS = 1, LESSER_PAIRS = 2, HEIGHTS = 3, LONGEST_RISE = 4;
    private static final String UP = "01234567";
    private static final String DOWN = "76543210";
    private static final int[] FACTORIALS = {1, 1, 2, 6, 24, 120, 720, 5040, 40320};

    private static CountTriangles x = new CountTriangles();

    public static void main(String[] args) {
        things();
        rowsOfPartings();
        firstAndLastParting();
        rankAmongAsManyParts();
        fourBits();
        ordersOfN();
        rings();
        falls();
        lesserPairs();
        heights();
        longestRise();
        ordersOfAMark();
        rankAmongAll();
        turnedOver();
        behind();
        partingAnswers();
        partRankAnswers();
        ordersAnswers();
        markAnswers();
        rankAnswers();
        overAnswers();
        behindAnswers();
        Due.end();
    }

    private static void sentence(String words) {
        Due.sentence(words);
        x = new CountTriangles();
    }

    private static int partRank(String row) {
        return x.partRank(row.length(), Due.row(row));
    }

    private static int mark(String order, int mark) {
        return x.mark(order.length(), Due.row(order), mark);
    }

    private static int rank(String order) {
        return x.rank(order.length(), Due.row(order));
    }

    private static void things() {
        sentence("PARTINGS of n things (1 to 8) into k parts");
        Due.due("1 thing", x.parting(1, 1, -1), 1);
        Due.due("8 things", x.parting(8, 4, -1), 1701);
        Due.due("0 things", x.parting(0, 1, -1), Due.BAD);
        Due.due("9 things", x.parting(9, 1, -1), Due.BAD);
        Due.due("a row of 1", x.partRank(1, 0), 0);
        Due.due("a row of 8", x.partRank(8, 0), 0);
        Due.due("a row of 0", x.partRank(0, 0), Due.BAD);
        Due.due("a row of 9", x.partRank(9, 0), Due.BAD);
        for (int n = 1; n <= 8; n++) {
            Due.due(n + " into 1", x.parting(n, 1, -1), 1);
            Due.due(n + " into " + n, x.parting(n, n, -1), 1);
            Due.due(n + " into more", n == 8 ? 0 : x.parting(n, n + 1, -1), 0);
        }
    }

    private static void rowsOfPartings() {
        sentence("rows of n digits, the first 0, each no greater than the greatest ahead and 1, k - 1 the greatest");
        for (String row : new String[] {"0", "00", "01", "0012", "0120", "0123", "0101", UP, "00000000", "01111112"}) {
            Due.due(row, partRank(row) >= 0);
        }
        for (String row : new String[] {"1", "10", "12", "1000", "11111111", "2"}) {
            Due.due("the first is not 0: " + row, partRank(row), Due.BAD);
        }
        for (String row : new String[] {"02", "0013", "0124", "0101013", "01234568", "0000000f", "0f", "00000002"}) {
            Due.due("a digit is greater: " + row, partRank(row), Due.BAD);
        }
        for (int k = 1; k <= 8; k++) {
            String first = Integer.toHexString(x.parting(8, k, 0));
            Due.due("the greatest of the first into " + k, first.charAt(first.length() - 1) - '0', k - 1);
        }
    }

    private static void firstAndLastParting() {
        sentence("how many; the i-th (by the first digit, then the second, ..); RANK of a row");
        String[] fourIntoTwo = {"0001", "0010", "0011", "0100", "0101", "0110", "0111"};
        Due.due("how many", x.parting(4, 2, -1), 7);
        for (int i = 0; i < 7; i++) {
            Due.due("the " + i + "-th", x.parting(4, 2, i), Due.row(fourIntoTwo[i]));
        }
        Due.due("there is no 7th", x.parting(4, 2, 7), Due.NONE);
        Due.due("the last of 1701", x.parting(8, 4, 1700), Due.row("01233333"));
        Due.due("the first of 1701", x.parting(8, 4, 0), Due.row("00000123"));
        Due.due("the only one", x.parting(8, 8, 0), Due.row(UP));
        Due.due("the only one", x.parting(8, 1, 0), 0);
    }

    private static void rankAmongAsManyParts() {
        sentence("RANK of a row: how many with as many parts are ahead of it.");
        Due.due("the first into 2", partRank("00000001"), 0);
        Due.due("the last into 2", partRank("01111111"), 126);
        Due.due("the first into 3", partRank("00000012"), 0);
        Due.due("the last into 3", partRank("01222222"), 965);
        Due.due("the only one into 8", partRank(UP), 0);
        Due.due("the only one into 1", partRank("00000000"), 0);
        Due.due("the only one of 1", partRank("0"), 0);
    }

    private static void fourBits() {
        sentence("Rows, orders are told by four bits a digit, the first the highest.");
        Due.due("the first is the highest", x.parting(3, 2, 0), 0x001);
        Due.due("the first is the highest", x.orders(3, LESSER_PAIRS, 3, 0), 0x210);
        Due.due("all 32 bits", x.orders(8, LESSER_PAIRS, 28, 0), 0x76543210);
        // A bit above the n digits makes it none, wherever it stands.
        for (int n = 1; n <= 7; n++) {
            int up = Due.row(UP.substring(0, n));
            Due.due("an order of " + n, x.rank(n, up), 0);
            Due.due("a parting of " + n, x.partRank(n, up), 0);
            int down = Due.row(DOWN.substring(8 - n));
            Due.due("an order with n - 1 as its highest digit", x.rank(n, down), FACTORIALS[n] - 1);
            for (int bit = 4 * n; bit < 32; bit++) {
                Due.due("bit " + bit + " of an order of " + n, x.rank(n, up | 1 << bit), Due.BAD);
                Due.due("bit " + bit + " of a parting of " + n, x.partRank(n, up | 1 << bit), Due.BAD);
            }
        }
        Due.due("the highest bit of 8", x.rank(8, 0x01234567 | LEAST), Due.BAD);
        Due.due("the highest bit of 8", x.partRank(8, 0x01234567 | LEAST), Due.BAD);
        Due.due("digits of 15", x.rank(8, -1), Due.BAD);
        Due.due("digits of 15", x.partRank(8, -1), Due.BAD);
    }

    private static void ordersOfN() {
        sentence("ORDERS of n (1 to 8): rows of all digits 0 to n - 1.");
        for (int n = 1; n <= 8; n++) {
            Due.due("an order of " + n, x.rank(n, Due.row(UP.substring(0, n))), 0);
        }
        Due.due("n 0", x.rank(0, 0), Due.BAD);
        Due.due("n 9", x.rank(9, 0x12345678), Due.BAD);
        for (String row : new String[] {"1", "f", "00", "11", "12", "013", "123", "0122", "01234566", "01234568",
                "12345678", "0000000f", "f1234567", "00123456"}) {
            Due.due(row, rank(row), Due.BAD);
        }
    }

    private static void rings() {
        sentence("0 RINGS: digit d leads to what stands at place d, and on: how many rings");
        Due.due("each leads to itself", mark(UP, RINGS), 8);
        Due.due("all in one", mark("12345670", RINGS), 1);
        Due.due("all in one, the other way", mark("70123456", RINGS), 1);
        Due.due("pairs", mark(DOWN, RINGS), 4);
        Due.due("one of 1", mark("0", RINGS), 1);
        Due.due("one of 2", mark("10", RINGS), 1);
        Due.due("a pair and six", mark("71234560", RINGS), 7);
    }

    private static void falls() {
        sentence("1 FALLS: places whose next digit is lesser");
        Due.due("none", mark(UP, FALLS), 0);
        Due.due("all but the last place", mark(DOWN, FALLS), 7);
        Due.due("one of 1", mark("0", FALLS), 0);
        Due.due("the first place alone", mark("70123456", FALLS), 1);
        Due.due("the last place but one alone", mark("12345670", FALLS), 1);
        Due.due("by turns", mark("10325476", FALLS), 4);
    }

    private static void lesserPairs() {
        sentence("2 LESSER PAIRS: pairs of which the later one is lesser");
        Due.due("none", mark(UP, LESSER_PAIRS), 0);
        Due.due("all 28", mark(DOWN, LESSER_PAIRS), 28);
        Due.due("one of 1", mark("0", LESSER_PAIRS), 0);
        Due.due("the first with all", mark("70123456", LESSER_PAIRS), 7);
        Due.due("the last with all", mark("12345670", LESSER_PAIRS), 7);
        Due.due("all but one", mark("67543210", LESSER_PAIRS), 27);
    }

    private static void heights() {
        sentence("3 HEIGHTS: digits greater than all ahead of them");
        Due.due("all", mark(UP, HEIGHTS), 8);
        Due.due("the first alone", mark(DOWN, HEIGHTS), 1);
        Due.due("one of 1", mark("0", HEIGHTS), 1);
        Due.due("the first alone", mark("70123456", HEIGHTS), 1);
        Due.due("the first and the last", mark("65432107", HEIGHTS), 2);
        Due.due("all but the last", mark("12345670", HEIGHTS), 7);
    }

    private static void longestRise() {
        sentence("4 LONGEST RISE: the most digits, each behind and greater than the one taken ahead.");
        Due.due("all", mark(UP, LONGEST_RISE), 8);
        Due.due("one", mark(DOWN, LONGEST_RISE), 1);
        Due.due("one of 1", mark("0", LONGEST_RISE), 1);
        Due.due("not from the first", mark("70123456", LONGEST_RISE), 7);
        Due.due("not to the last", mark("12345670", LONGEST_RISE), 7);
        Due.due("not side by side", mark("04152637", LONGEST_RISE), 5);
        Due.due("not all greater ones", mark("07123456", LONGEST_RISE), 7);
        Due.due("two", mark("76543201", LONGEST_RISE), 2);
    }

    private static void ordersOfAMark() {
        sentence("How many orders of n have a MARK of v; the i-th such (by the first digit, then the second, ..)");
        int[] least = {1, 0, 0, 1, 1};
        int[] most = {8, 7, 28, 8, 8};
        String[] first = {"12345670", UP, UP, "70123456", DOWN};
        String[] last = {UP, DOWN, DOWN, UP, UP};
        int[] howMany = {5040, 1, 1, 5040, 1};
        for (int mark = 0; mark <= 4; mark++) {
            Due.due("how many of the least", x.orders(8, mark, least[mark], -1), howMany[mark]);
            Due.due("the first of the least", x.orders(8, mark, least[mark], 0), Due.row(first[mark]));
            Due.due("none behind its last", x.orders(8, mark, least[mark], howMany[mark]), Due.NONE);
            Due.due("its last", x.orders(8, mark, least[mark], howMany[mark] - 1) >= Due.row(first[mark]));
            Due.due("one has the most", x.orders(8, mark, most[mark], -1), 1);
            Due.due("it is the first", x.orders(8, mark, most[mark], 0), Due.row(last[mark]));
            Due.due("none behind it", x.orders(8, mark, most[mark], 1), Due.NONE);
            if (least[mark] > 0) {
                Due.due("none has less", x.orders(8, mark, least[mark] - 1, -1), 0);
                Due.due("none has less", x.orders(8, mark, least[mark] - 1, 0), Due.NONE);
            }
            if (most[mark] < 28) {
                Due.due("none has more", x.orders(8, mark, most[mark] + 1, -1), 0);
                Due.due("none has more", x.orders(8, mark, most[mark] + 1, 0), Due.NONE);
            }
            Due.due("of 1", x.orders(1, mark, least[mark], 0), 0);
            Due.due("of 1", x.orders(1, mark, least[mark] + 1, -1), 0);
        }
        String[] oneFall = {"021", "102", "120", "201"};
        for (int i = 0; i < 4; i++) {
            Due.due("one fall of 3", x.orders(3, FALLS, 1, i), Due.row(oneFall[i]));
        }
        Due.due("one fall of 3", x.orders(3, FALLS, 1, 4), Due.NONE);
    }

    private static void rankAmongAll() {
        sentence("RANK of an order among all of n.");
        Due.due("the first of 8", rank(UP), 0);
        Due.due("the second of 8", rank("01234576"), 1);
        Due.due("the last but one of 8", rank("76543201"), 40318);
        Due.due("the last of 8", rank(DOWN), 40319);
        Due.due("7 ahead", rank("70123456"), 35280);
        Due.due("the only one of 1", rank("0"), 0);
        Due.due("the last of 2", rank("10"), 1);
    }

    private static void turnedOver() {
        sentence("TURNED OVER: that which has at place d the place at which d stood.");
        Due.due("of 1", x.over(1, 0), 0);
        Due.due("of 2", x.over(2, 0x10), 0x10);
        Due.due("the first of 8", x.over(8, Due.row(UP)), Due.row(UP));
        Due.due("the last of 8", x.over(8, Due.row(DOWN)), Due.row(DOWN));
        Due.due("one on", x.over(8, Due.row("12345670")), Due.row("70123456"));
        Due.due("one back", x.over(8, Due.row("70123456")), Due.row("12345670"));
    }

    private static void behind() {
        sentence("BEHIND: a behind b: at place d what stands in a at the place that stands at d in b.");
        Due.due("of 1", x.behind(1, 0, 0), 0);
        Due.due("a behind b", x.behind(3, 0x120, 0x021), 0x102);
        Due.due("b behind a", x.behind(3, 0x021, 0x120), 0x210);
        Due.due("behind the first of 8", x.behind(8, Due.row("31420576"), Due.row(UP)), Due.row("31420576"));
        Due.due("the first of 8 behind", x.behind(8, Due.row(UP), Due.row("31420576")), Due.row("31420576"));
        Due.due("behind the last of 8", x.behind(8, Due.row("31420576"), Due.row(DOWN)), Due.row("67502413"));
        Due.due("the last of 8 behind", x.behind(8, Due.row(DOWN), Due.row("31420576")), Due.row("46357201"));
        Due.due("twice the same", x.behind(8, Due.row("12345670"), Due.row("12345670")), Due.row("23456701"));
    }

    private static void partingAnswers() {
        sentence("PARTINGS into k (1 to 8) parts: how many (i = -1), the i-th. NONE; BAD.");
        for (int n : new int[] {0, 9, -1, LEAST, MOST}) {
            Due.due("n " + n, x.parting(n, 1, -1), Due.BAD);
            Due.due("n " + n, x.parting(n, 1, 0), Due.BAD);
            Due.due("BAD comes ahead of NONE", x.parting(n, 1, 1), Due.BAD);
        }
        for (int k : new int[] {0, 9, -1, LEAST, MOST}) {
            Due.due("k " + k, x.parting(8, k, -1), Due.BAD);
            Due.due("BAD comes ahead of NONE", x.parting(8, k, 0), Due.BAD);
        }
        for (int i : new int[] {-2, -3, LEAST}) {
            Due.due("i " + i, x.parting(8, 2, i), Due.BAD);
        }
        Due.due("how many", x.parting(8, 2, -1), 127);
        Due.due("the last", x.parting(8, 2, 126), Due.row("01111111"));
        Due.due("none", x.parting(8, 2, 127), Due.NONE);
        Due.due("none", x.parting(8, 2, MOST), Due.NONE);
        Due.due("more parts than things", x.parting(7, 8, -1), 0);
        Due.due("more parts than things", x.parting(7, 8, 0), Due.NONE);
        Due.due("k 8", x.parting(8, 8, -1), 1);
        Due.due("k 1", x.parting(1, 1, 0), 0);
    }

    private static void partRankAnswers() {
        sentence("RANK of a PARTING. BAD (it is none, too).");
        for (int n : new int[] {0, 9, -1, LEAST, MOST}) {
            Due.due("n " + n, x.partRank(n, 0), Due.BAD);
        }
        Due.due("of 1", x.partRank(1, 0), 0);
        Due.due("of 8", x.partRank(8, 0x01234567), 0);
        Due.due("it is none", x.partRank(3, 0x002), Due.BAD);
        Due.due("it is none", x.partRank(3, 0x100), Due.BAD);
        Due.due("it is one of 4", x.partRank(3, 0x0123 << 4), Due.BAD);
        Due.due("it is none", x.partRank(8, MOST), Due.BAD);
        Due.due("it is none", x.partRank(8, LEAST), Due.BAD);
    }

    private static void ordersAnswers() {
        sentence("ORDERS with a MARK (0 to 4) of v (0 to 28): how many (i = -1), the i-th. NONE; BAD.");
        for (int n : new int[] {0, 9, -1, LEAST, MOST}) {
            Due.due("n " + n, x.orders(n, 0, 1, -1), Due.BAD);
            Due.due("BAD comes ahead of NONE", x.orders(n, 0, 28, 0), Due.BAD);
        }
        for (int mark : new int[] {-1, 5, LEAST, MOST}) {
            Due.due("mark " + mark, x.orders(8, mark, 1, -1), Due.BAD);
            Due.due("mark " + mark, x.orders(8, mark, 1, 0), Due.BAD);
        }
        for (int mark = 0; mark <= 4; mark++) {
            Due.due("v -1", x.orders(8, mark, -1, -1), Due.BAD);
            Due.due("v -1", x.orders(8, mark, -1, 0), Due.BAD);
            Due.due("v 0", x.orders(8, mark, 0, -1), mark == 1 || mark == 2 ? 1 : 0);
            Due.due("v 28", x.orders(8, mark, 28, -1), mark == 2 ? 1 : 0);
            Due.due("v 28", x.orders(8, mark, 28, 0), mark == 2 ? Due.row(DOWN) : Due.NONE);
            Due.due("v 29", x.orders(8, mark, 29, -1), Due.BAD);
            Due.due("v 29", x.orders(8, mark, 29, 0), Due.BAD);
            Due.due("v far off", x.orders(8, mark, MOST, -1), Due.BAD);
            Due.due("v far off", x.orders(8, mark, LEAST, -1), Due.BAD);
            Due.due("i -2", x.orders(8, mark, 2, -2), Due.BAD);
            Due.due("i far off", x.orders(8, mark, 2, LEAST), Due.BAD);
            Due.due("none", x.orders(8, mark, 2, 40320), Due.NONE);
            Due.due("none", x.orders(8, mark, 2, MOST), Due.NONE);
        }
    }

    private static void markAnswers() {
        sentence("A MARK of an order. BAD.");
        for (int mark : new int[] {-1, 5, LEAST, MOST}) {
            Due.due("mark " + mark, x.mark(8, Due.row(UP), mark), Due.BAD);
        }
        for (int mark = 0; mark <= 4; mark++) {
            Due.due("n 0", x.mark(0, 0, mark), Due.BAD);
            Due.due("n 9", x.mark(9, Due.row(UP), mark), Due.BAD);
            Due.due("no order", x.mark(8, 0, mark), Due.BAD);
            Due.due("no order of 7", x.mark(7, Due.row(UP), mark), Due.BAD);
            Due.due("an order of 8", x.mark(8, Due.row(UP), mark) >= 0);
            Due.due("an order of 1", x.mark(1, 0, mark) >= 0);
        }
    }

    private static void rankAnswers() {
        sentence("RANK of an order. BAD.");
        for (int n : new int[] {0, 9, -1, LEAST, MOST}) {
            Due.due("n " + n, x.rank(n, 0), Due.BAD);
            Due.due("n " + n, x.rank(n, Due.row(UP)), Due.BAD);
        }
        for (int row : new int[] {-1, LEAST, MOST, 0, 0x01234566, 0x01234568, 0x12345678}) {
            Due.due("no order of 8", x.rank(8, row), Due.BAD);
        }
        Due.due("of 1", x.rank(1, 0), 0);
        Due.due("none of 1", x.rank(1, 1), Due.BAD);
    }

    private static void overAnswers() {
        sentence("TURNED OVER. BAD.");
        for (int n : new int[] {0, 9, -1, LEAST, MOST}) {
            Due.due("n " + n, x.over(n, 0), Due.BAD);
            Due.due("n " + n, x.over(n, Due.row(UP)), Due.BAD);
        }
        for (int row : new int[] {-1, LEAST, MOST, 0, 0x01234566, 0x01234568, 0x12345678}) {
            Due.due("no order of 8", x.over(8, row), Due.BAD);
        }
        Due.due("none of 1", x.over(1, 1), Due.BAD);
        Due.due("none of 3", x.over(3, 0x0123), Due.BAD);
    }

    private static void behindAnswers() {
        sentence("BEHIND: a behind b. BAD.");
        for (int n : new int[] {0, 9, -1, LEAST, MOST}) {
            Due.due("n " + n, x.behind(n, 0, 0), Due.BAD);
            Due.due("n " + n, x.behind(n, Due.row(UP), Due.row(UP)), Due.BAD);
        }
        for (int row : new int[] {-1, LEAST, MOST, 0, 0x01234566, 0x01234568, 0x12345678}) {
            Due.due("a is no order of 8", x.behind(8, row, Due.row(UP)), Due.BAD);
            Due.due("b is no order of 8", x.behind(8, Due.row(UP), row), Due.BAD);
            Due.due("none is", x.behind(8, row, row), Due.BAD);
        }
        Due.due("a is one of another n", x.behind(2, 0x012, 0x01), Due.BAD);
        Due.due("b is one of another n", x.behind(2, 0x01, 0x012), Due.BAD);
    }
}
