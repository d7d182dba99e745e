/** Promises 13 to 19, told one by one (EveryOrderTest has every parting and order). */
public final class CountedTest {
    private static final int LEAST = Integer.MIN_VALUE;
    private static final int MOST = Integer.MAX_VALUE;
    private static final int UP = Due.row("01234567");
    private static final int DOWN = Due.row("76543210");

    private static final CountTriangles X = new CountTriangles();

    public static void main(String[] args) {
        parting();
        partRank();
        orders();
        mark();
        rank();
        over();
        behind();
        wrongOrders();
        nothingChanges();
        Due.end();
    }

    private static void parting() {
        Due.promise(13, "parting",
                "`int parting(int n, int k, int i)`: PARTINGS into k (1 to 8) parts: how many (i ="
                        + " -1), the i-th. NONE; BAD.");
        int[][] bad = {
            {0, 1, 0}, {9, 1, 0}, {3, 0, 0}, {3, 9, 0}, {3, 2, -2}, {0, 0, -1}, {9, 9, -1},
            {LEAST, 1, 0}, {MOST, 1, 0}, {3, LEAST, 0}, {3, MOST, -1}, {3, 2, LEAST},
        };
        for (int[] call : bad) {
            Due.due("13: BAD", X.parting(call[0], call[1], call[2]), Due.BAD);
        }
        int[] parts = {1, 127, 966, 1701, 1050, 266, 28, 1};
        for (int k = 1; k <= 8; k++) {
            Due.due("13: how many of 8", X.parting(8, k, -1), parts[k - 1]);
        }
        String[] three = {"001", "010", "011"};
        for (int i = 0; i < 3; i++) {
            Due.due("13: of 3 into 2", X.parting(3, 2, i), Due.row(three[i]));
        }
        Due.due("13: there is none", X.parting(3, 2, 3), Due.NONE);
        Due.due("13: there is none", X.parting(3, 2, MOST), Due.NONE);
        Due.due("13: more parts than things", X.parting(3, 4, -1), 0);
        Due.due("13: more parts than things", X.parting(3, 4, 0), Due.NONE);
        Due.due("13: one thing", X.parting(1, 1, 0), 0);
        Due.due("13: all apart", X.parting(8, 8, 0), UP);
        Due.due("13: all together", X.parting(8, 1, 0), 0);
        Due.due("13: the last", X.parting(8, 3, 965), Due.row("01222222"));
        Due.due("13: the first", X.parting(8, 3, 0), Due.row("00000012"));
    }

    private static void partRank() {
        Due.promise(14, "partRank", "`int partRank(int n, int row)`: RANK of a PARTING. BAD (it is none, too).");
        for (int n : new int[] {0, 9, -1, LEAST, MOST}) {
            Due.due("14: n " + n, X.partRank(n, 0), Due.BAD);
        }
        Due.due("14: first", X.partRank(3, Due.row("001")), 0);
        Due.due("14: last", X.partRank(3, Due.row("011")), 2);
        Due.due("14: among as many parts alone", X.partRank(3, Due.row("012")), 0);
        Due.due("14: last of 8 into 3", X.partRank(8, Due.row("01222222")), 965);
        Due.due("14: one thing", X.partRank(1, 0), 0);
        String[] none = {"1", "10", "02", "012402", "0121004", "01234568", "11111111", "0000000f", "00200000"};
        for (String row : none) {
            Due.due("14: none " + row, X.partRank(row.length(), Due.row(row)), Due.BAD);
        }
        Due.due("14: a digit too many", X.partRank(3, 0x1000), Due.BAD);
        Due.due("14: the highest bit too many", X.partRank(7, 0x10000000), Due.BAD);
        Due.due("14: less than 0", X.partRank(7, LEAST), Due.BAD);
        Due.due("14: less than 0", X.partRank(8, LEAST), Due.BAD);
        Due.due("14: less than 0", X.partRank(8, -1), Due.BAD);
    }

    private static void orders() {
        Due.promise(15, "orders",
                "`int orders(int n, int mark, int v, int i)`: ORDERS with a MARK (0 to 4) of v (0 to"
                        + " 28): how many (i = -1), the i-th. NONE; BAD.");
        int[][] bad = {
            {0, 0, 1, 0}, {9, 0, 1, 0}, {4, -1, 1, 0}, {4, 5, 1, 0}, {4, 0, -1, 0}, {4, 0, 29, 0}, {4, 0, 1, -2},
            {LEAST, 0, 1, 0}, {MOST, 0, 1, 0}, {4, MOST, 1, 0}, {4, LEAST, 1, 0}, {4, 0, MOST, 0}, {4, 0, LEAST, 0},
            {4, 0, 1, LEAST},
        };
        for (int[] call : bad) {
            Due.due("15: BAD", X.orders(call[0], call[1], call[2], call[3]), Due.BAD);
        }
        int[][] four = {
            {0, 6, 11, 6, 1, 0}, {1, 11, 11, 1, 0, 0}, {1, 3, 5, 6, 5, 3}, {0, 6, 11, 6, 1, 0}, {0, 1, 13, 9, 1, 0},
        };
        for (int mark = 0; mark < 5; mark++) {
            for (int v = 0; v < 6; v++) {
                Due.due("15: how many of 4", X.orders(4, mark, v, -1), four[mark][v]);
            }
            Due.due("15: none has 28", X.orders(4, mark, 28, -1), 0);
            Due.due("15: none has 28", X.orders(4, mark, 28, 0), Due.NONE);
            int all = 0;
            for (int v = 0; v <= 28; v++) {
                all += X.orders(8, mark, v, -1);
            }
            Due.due("15: all of 8", all, 40320);
        }
        Due.due("15: 28 lesser pairs", X.orders(8, 2, 28, 0), DOWN);
        Due.due("15: no fall", X.orders(8, 1, 0, 0), UP);
        Due.due("15: there is none", X.orders(8, 1, 0, 1), Due.NONE);
        Due.due("15: there is none", X.orders(8, 1, 0, MOST), Due.NONE);
        Due.due("15: one ring of 3", X.orders(3, 0, 1, 0), Due.row("120"));
        Due.due("15: one ring of 3", X.orders(3, 0, 1, 1), Due.row("201"));
        Due.due("15: one height of 3", X.orders(3, 3, 1, 1), Due.row("210"));
        Due.due("15: a rise of 2 of 3", X.orders(3, 4, 2, 3), Due.row("201"));
        Due.due("15: one", X.orders(1, 4, 1, 0), 0);
    }

    private static void mark() {
        Due.promise(16, "mark", "`int mark(int n, int order, int mark)`: A MARK of an order. BAD.");
        int order = Due.row("31420576");
        // 3 4 .. 0 3 2 4 0: rings (0 3 2 4), (1), (5), (6 7).
        Due.due("16: rings", X.mark(8, order, 0), 4);
        Due.due("16: falls 31, 42, 20, 76", X.mark(8, order, 1), 4);
        Due.due("16: lesser pairs 3 + 1 + 2 + 1 + 0 + 0 + 1", X.mark(8, order, 2), 8);
        Due.due("16: heights 3, 4, 5, 7", X.mark(8, order, 3), 4);
        Due.due("16: rise 3 4 5 7", X.mark(8, order, 4), 4);
        int[][] ends = {{8, 0, 0, 8, 8}, {4, 7, 28, 1, 1}};
        for (int mark = 0; mark < 5; mark++) {
            Due.due("16: rising " + mark, X.mark(8, UP, mark), ends[0][mark]);
            Due.due("16: falling " + mark, X.mark(8, DOWN, mark), ends[1][mark]);
            Due.due("16: one thing " + mark, X.mark(1, 0, mark), mark == 1 || mark == 2 ? 0 : 1);
        }
        // The greedy rise 0 7 is not the longest; 4 0 5 1 6 2 7 3 has 4 5 6 7 and 0 1 2 3.
        Due.due("16: rise behind a great digit", X.mark(8, Due.row("07123456"), 4), 7);
        Due.due("16: two rises", X.mark(8, Due.row("40516273"), 4), 4);
        for (int mark : new int[] {-1, 5, LEAST, MOST}) {
            Due.due("16: BAD " + mark, X.mark(8, UP, mark), Due.BAD);
        }
    }

    private static void rank() {
        Due.promise(17, "rank", "`int rank(int n, int order)`: RANK of an order. BAD.");
        String[] three = {"012", "021", "102", "120", "201", "210"};
        for (int i = 0; i < 6; i++) {
            Due.due("17: of 3", X.rank(3, Due.row(three[i])), i);
        }
        Due.due("17: first", X.rank(8, UP), 0);
        Due.due("17: last", X.rank(8, DOWN), 40319);
        Due.due("17: one thing", X.rank(1, 0), 0);
    }

    private static void over() {
        Due.promise(18, "over", "`int over(int n, int order)`: TURNED OVER. BAD.");
        Due.due("18: a ring of 3", X.over(3, Due.row("120")), Due.row("201"));
        Due.due("18: of 8", X.over(8, Due.row("31420576")), Due.row("41302576"));
        Due.due("18: falling", X.over(8, DOWN), DOWN);
        Due.due("18: one thing", X.over(1, 0), 0);
    }

    private static void behind() {
        Due.promise(19, "behind", "`int behind(int n, int a, int b)`: BEHIND: a behind b. BAD.");
        Due.due("19: a behind b", X.behind(3, Due.row("102"), Due.row("120")), Due.row("021"));
        Due.due("19: b behind a", X.behind(3, Due.row("120"), Due.row("102")), Due.row("210"));
        Due.due("19: behind the first", X.behind(8, Due.row("31420576"), UP), Due.row("31420576"));
        Due.due("19: falling behind falling", X.behind(8, DOWN, DOWN), UP);
        Due.due("19: one thing", X.behind(1, 0, 0), 0);
    }

    /** None of these is an order of n. */
    private static void wrongOrders() {
        int[][] wrong = {
            {0, 0}, {9, UP}, {-1, 0}, {LEAST, 0}, {MOST, 0}, {1, 1}, {1, 16}, {1, LEAST}, {2, 0x00}, {2, 0x11},
            {2, 0x12}, {2, 0x101}, {3, 0x0012 | 0x1000}, {3, 0x013}, {4, 0x0122}, {4, 0x10123}, {7, 0x10123456},
            {7, 0x80123456}, {8, 0x01234568}, {8, 0x01234566}, {8, 0x81234567}, {8, -1}, {8, LEAST}, {8, 0},
        };
        for (int[] call : wrong) {
            String told = call[0] + ", " + call[1];
            Due.due("16: BAD " + told, X.mark(call[0], call[1], 0), Due.BAD);
            Due.due("17: BAD " + told, X.rank(call[0], call[1]), Due.BAD);
            Due.due("18: BAD " + told, X.over(call[0], call[1]), Due.BAD);
            Due.due("19: BAD " + told, X.behind(call[0], call[1], call[1]), Due.BAD);
        }
        Due.due("19: BAD first", X.behind(3, 0, 0x012), Due.BAD);
        Due.due("19: BAD second", X.behind(3, 0x012, 0), Due.BAD);
    }

    private static void nothingChanges() {
        for (int what = 0; what < 3; what++) {
            Due.due("13 to 19: counting changes nothing", X.count(what), 0);
        }
    }
}
