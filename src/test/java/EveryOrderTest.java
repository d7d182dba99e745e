import java.util.List;

/** Promises 13 to 19 for every parting and every order, one by one. */
public final class EveryOrderTest {
    private static final int CALLS_OF_AN_OBJECT = 512;

    private static CountTriangles object = new CountTriangles();
    private static int calls = 0;

    public static void main(String[] args) {
        Model y = new Model();
        for (int n = 1; n <= 8; n++) {
            partings(y, n);
            orders(n);
            ranksAndTurns(n);
        }
        Due.end();
    }

    /** The object to call next: nothing is promised of one after its 512th call. */
    private static CountTriangles x() {
        if (calls == CALLS_OF_AN_OBJECT) {
            object = new CountTriangles();
            calls = 0;
        }
        calls++;
        return object;
    }

    private static void partings(Model y, int n) {
        for (int k = 1; k <= 8; k++) {
            int all = y.parting(n, k, -1);
            Due.due("parting(" + n + ", " + k + ", -1)", x().parting(n, k, -1), all);
            Due.due("parting(" + n + ", " + k + ", " + all + ")", x().parting(n, k, all), Due.NONE);
            int last = -1;
            for (int i = 0; i < all; i++) {
                int row = x().parting(n, k, i);
                if (n < 7 || i % 50 == 0) {
                    Due.due("parting(" + n + ", " + k + ", " + i + ")", row, y.parting(n, k, i));
                }
                Due.due("rising at " + i, row > last);
                Due.due("partRank(" + n + ", " + row + ")", x().partRank(n, row), i);
                last = row;
            }
        }
    }

    private static void orders(int n) {
        for (int mark = 0; mark <= 4; mark++) {
            for (int v = 0; v <= 28; v++) {
                List<Integer> all = Model.marked(n, mark, v);
                String call = "orders(" + n + ", " + mark + ", " + v + ", ";
                Due.due(call + "-1)", x().orders(n, mark, v, -1), all.size());
                Due.due(call + all.size() + ")", x().orders(n, mark, v, all.size()), Due.NONE);
                for (int i = 0; i < all.size(); i++) {
                    Due.due(call + i + ")", x().orders(n, mark, v, i), all.get(i));
                    Due.due("mark(" + n + ", " + all.get(i) + ", " + mark + ")", x().mark(n, all.get(i), mark), v);
                }
            }
        }
    }

    private static void ranksAndTurns(int n) {
        List<int[]> all = Model.ordersOf(n);
        int same = packed(all.get(0));
        for (int i = 0; i < all.size(); i++) {
            int[] digits = all.get(i);
            int[] turned = new int[n];
            for (int place = 0; place < n; place++) {
                turned[digits[place]] = place;
            }
            int order = packed(digits);
            Due.due("rank(" + n + ", " + order + ")", x().rank(n, order), i);
            Due.due("over(" + n + ", " + order + ")", x().over(n, order), packed(turned));
            Due.due("behind itself turned over", x().behind(n, order, packed(turned)), same);
        }
    }

    private static int packed(int[] digits) {
        int row = 0;
        for (int digit : digits) {
            row = row << 4 | digit;
        }
        return row;
    }
}
