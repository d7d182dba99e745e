import java.math.BigInteger;
import java.util.ArrayList;
import java.util.Arrays;
import java.util.List;
import java.util.regex.Matcher;
import java.util.regex.Pattern;

/**
 * The document once more, by other means and as plainly as can be: whole numbers
 * without a limit, all partings and all orders told one by one. Tests hold it
 * against the class. A number that is TOO GREAT, or a NO, is null.
 */
final class Model {
    static final BigInteger E17 = BigInteger.TEN.pow(17);
    static final BigInteger E8 = BigInteger.TEN.pow(8);
    static final BigInteger E6 = BigInteger.TEN.pow(6);
    static final long LONG_BAD = -1_000_000_000_000_000_001L;
    static final long LONG_NO = -1_000_000_000_000_000_002L;
    private static final String NUMBER = "(?:[0-9]|-[1-9])";
    private static final Pattern ITEM = Pattern.compile(
            "(?:[ab]" + NUMBER + "," + NUMBER + "," + NUMBER + ";|s" + NUMBER + ";)");
    private static final BigInteger SCALE = BigInteger.valueOf(40320);

    private static final List<List<int[]>> ALL_ORDERS = new ArrayList<>();
    private static final List<List<int[]>> ALL_MARKS = new ArrayList<>();

    private final StringBuilder text = new StringBuilder();
    private final int[][] law = new int[4][7];
    private final int[] items = new int[4];
    private final BigInteger[][][] triangle = new BigInteger[4][][];
    private final int[] base = new int[4];
    private final long[][] polynomial = new long[4][9];

    Model() {
        for (int l = 0; l < 4; l++) {
            law[l][6] = 1;
            triangle[l] = triangleOf(law[l]);
        }
    }

    private static boolean out(long number, long least, long most) {
        return number < least || number > most;
    }

    private static boolean over(BigInteger number, BigInteger most) {
        return number.abs().compareTo(most) > 0;
    }

    private static long answer(BigInteger number) {
        return number == null ? LONG_NO : number.longValueExact();
    }

    // ---- laws

    int write(int n, long v) {
        if (out(n, 1, 8)) {
            return -1;
        }
        if (text.length() + n > 120) {
            return -3;
        }
        for (int i = 0; i < n; i++) {
            text.append((char) (v >> 8 * (n - 1 - i) & 0xff));
        }
        return text.length();
    }

    int wipe() {
        int was = text.length();
        text.setLength(0);
        return was;
    }

    private List<String> itemsAhead() {
        List<String> found = new ArrayList<>();
        Matcher matcher = ITEM.matcher(text);
        int at = 0;
        while (at < text.length() && matcher.region(at, text.length()).lookingAt()) {
            found.add(matcher.group());
            at = matcher.end();
        }
        return found;
    }

    int fault() {
        int length = String.join("", itemsAhead()).length();
        return length == text.length() ? -4 : length;
    }

    int lay(int l) {
        if (out(l, 0, 3)) {
            return -1;
        }
        if (fault() != -4) {
            return -2;
        }
        int[] laid = {0, 0, 0, 0, 0, 0, 1};
        for (String item : itemsAhead()) {
            String[] numbers = item.substring(1, item.length() - 1).split(",");
            int at = "abs".indexOf(item.charAt(0)) * 3;
            for (int i = 0; i < numbers.length; i++) {
                laid[at + i] = Integer.parseInt(numbers[i]);
            }
        }
        law[l] = laid;
        items[l] = itemsAhead().size();
        triangle[l] = triangleOf(laid);
        return items[l];
    }

    private static BigInteger[][] triangleOf(int[] law) {
        BigInteger[][] rows = new BigInteger[25][];
        for (int n = 0; n <= 24; n++) {
            rows[n] = new BigInteger[n + 1];
            for (int k = 0; k <= n; k++) {
                rows[n][k] = n == 0 ? BigInteger.valueOf(law[6]) : cell(law, rows[n - 1], n, k);
            }
        }
        return rows;
    }

    private static BigInteger cell(int[] law, BigInteger[] above, int n, int k) {
        BigInteger sum = BigInteger.ZERO;
        for (int side = 0; side < 2; side++) {
            int from = side == 0 ? k - 1 : k;
            int times = law[3 * side] + law[3 * side + 1] * n + law[3 * side + 2] * k;
            if (from < 0 || from >= above.length || times == 0) {
                continue;
            }
            if (above[from] == null) {
                return null;
            }
            BigInteger part = above[from].multiply(BigInteger.valueOf(times));
            if (over(part, E17)) {
                return null;
            }
            sum = sum.add(part);
        }
        return over(sum, E17) ? null : sum;
    }

    long number(int l, int n, int k) {
        return out(l, 0, 3) || out(n, 0, 24) || out(k, 0, n) ? LONG_BAD : answer(triangle[l][n][k]);
    }

    long sum(int l, int n, int what) {
        if (out(l, 0, 3) || out(n, 0, 24) || out(what, 0, 3)) {
            return LONG_BAD;
        }
        BigInteger sum = BigInteger.ZERO;
        for (int k = 0; k <= n; k++) {
            if (what == 2 && k > n - k) {
                break;
            }
            BigInteger number = triangle[l][what == 2 ? n - k : n][k];
            if (number == null || what == 3 && over(number, E8)) {
                return LONG_NO;
            }
            if (what == 3) {
                number = number.multiply(number);
            }
            sum = what == 1 && k % 2 != 0 ? sum.subtract(number) : sum.add(number);
        }
        return answer(sum);
    }

    int shape(int l, int n, int what) {
        if (out(l, 0, 3) || out(n, 0, 24) || out(what, 0, 2)) {
            return -1;
        }
        BigInteger[] row = triangle[l][n];
        for (BigInteger number : row) {
            if (number == null || what == 2 && over(number, E8)) {
                return -2;
            }
        }
        if (what == 0) {
            BigInteger most = Arrays.stream(row).max(BigInteger::compareTo).get();
            return Arrays.asList(row).indexOf(most);
        }
        for (int k = 0; k < n; k++) {
            if (what == 1 && row[k + 1].compareTo(row[k]) > 0 && fellAhead(row, k)) {
                return k;
            }
            if (what == 2 && k > 0
                    && row[k].pow(2).compareTo(row[k - 1].multiply(row[k + 1])) < 0) {
                return k;
            }
        }
        return -4;
    }

    private static boolean fellAhead(BigInteger[] row, int k) {
        for (int j = 0; j + 1 <= k; j++) {
            if (row[j + 1].compareTo(row[j]) < 0) {
                return true;
            }
        }
        return false;
    }

    int rest(int l, int n, int k, int m) {
        if (out(l, 0, 3) || out(n, 0, 60) || out(k, 0, n) || out(m, 2, 10000)) {
            return -1;
        }
        BigInteger[] above = {BigInteger.valueOf(law[l][6])};
        for (int r = 1; r <= n; r++) {
            BigInteger[] row = new BigInteger[r + 1];
            for (int j = 0; j <= r; j++) {
                row[j] = free(law[l], above, r, j, 0).add(free(law[l], above, r, j, 1));
            }
            above = row;
        }
        return above[k].mod(BigInteger.valueOf(m)).intValueExact();
    }

    private static BigInteger free(int[] law, BigInteger[] above, int n, int k, int side) {
        int from = side == 0 ? k - 1 : k;
        if (from < 0 || from >= above.length) {
            return BigInteger.ZERO;
        }
        int times = law[3 * side] + law[3 * side + 1] * n + law[3 * side + 2] * k;
        return above[from].multiply(BigInteger.valueOf(times));
    }

    private BigInteger product(int a, int b, int n, int k) {
        BigInteger sum = BigInteger.ZERO;
        for (int j = k; j <= n; j++) {
            BigInteger first = triangle[a][n][j];
            BigInteger second = triangle[b][j][k];
            if (first == null || second == null || over(first.multiply(second), E17)) {
                return null;
            }
            sum = sum.add(first.multiply(second));
        }
        return sum;
    }

    long times(int a, int b, int n, int k) {
        if (out(a, 0, 3) || out(b, 0, 3) || out(n, 0, 24) || out(k, 0, n)) {
            return LONG_BAD;
        }
        return answer(product(a, b, n, k));
    }

    int undoes(int a, int b, int n) {
        if (out(a, 0, 3) || out(b, 0, 3) || out(n, 0, 24)) {
            return -1;
        }
        for (int r = 0; r <= n; r++) {
            for (int k = 0; k <= r; k++) {
                BigInteger number = product(a, b, r, k);
                if (number == null) {
                    return -2;
                }
                if (!number.equals(k == r ? BigInteger.ONE : BigInteger.ZERO)) {
                    return r;
                }
            }
        }
        return -4;
    }

    long back(int a, int n, int k) {
        if (out(a, 0, 3) || out(n, 0, 24) || out(k, 0, n)) {
            return LONG_BAD;
        }
        for (int r = 0; r <= n; r++) {
            if (triangle[a][r][r] == null || !triangle[a][r][r].abs().equals(BigInteger.ONE)) {
                return LONG_NO;
            }
        }
        BigInteger[] x = new BigInteger[n + 1];
        x[k] = triangle[a][k][k];
        for (int m = k + 1; m <= n; m++) {
            x[m] = BigInteger.ZERO;
            for (int j = k; j < m; j++) {
                if (triangle[a][m][j] == null || over(triangle[a][m][j].multiply(x[j]), E17)) {
                    return LONG_NO;
                }
                x[m] = x[m].subtract(triangle[a][m][j].multiply(x[j]).multiply(triangle[a][m][m]));
            }
            if (over(x[m], E17)) {
                return LONG_NO;
            }
        }
        return answer(x[n]);
    }

    // ---- what is counted

    private static int packed(int[] digits) {
        int row = 0;
        for (int digit : digits) {
            row = row * 16 + digit;
        }
        return row;
    }

    private static void partings(int[] row, int at, int parts, int k, List<Integer> into) {
        if (at == row.length) {
            if (parts == k) {
                into.add(packed(row));
            }
            return;
        }
        for (int digit = 0; digit <= parts; digit++) {
            row[at] = digit;
            partings(row, at + 1, Math.max(parts, digit + 1), k, into);
        }
    }

    private static List<Integer> partings(int n, int k) {
        List<Integer> all = new ArrayList<>();
        partings(new int[n], 0, 0, k, all);
        return all;
    }

    int parting(int n, int k, int i) {
        if (out(n, 1, 8) || out(k, 1, 8) || i < -1) {
            return -1;
        }
        List<Integer> all = partings(n, k);
        return i == -1 ? all.size() : i < all.size() ? all.get(i) : -4;
    }

    int partRank(int n, int row) {
        if (out(n, 1, 8)) {
            return -1;
        }
        for (int k = 1; k <= 8; k++) {
            int at = partings(n, k).indexOf(row);
            if (at >= 0) {
                return at;
            }
        }
        return -1;
    }

    /** All orders of n (1 to 8), in order. */
    static List<int[]> ordersOf(int n) {
        while (ALL_ORDERS.size() <= n) {
            List<int[]> all = new ArrayList<>();
            addOrders(new int[ALL_ORDERS.size()], 0, all);
            List<int[]> marks = new ArrayList<>();
            for (int[] order : all) {
                marks.add(new int[] {rings(order), falls(order), lesserPairs(order),
                        heights(order), longestRise(order)});
            }
            ALL_ORDERS.add(all);
            ALL_MARKS.add(marks);
        }
        return ALL_ORDERS.get(n);
    }

    private static void addOrders(int[] row, int at, List<int[]> into) {
        if (at == row.length) {
            into.add(row.clone());
            return;
        }
        for (int digit = 0; digit < row.length; digit++) {
            boolean free = true;
            for (int ahead = 0; ahead < at; ahead++) {
                free &= row[ahead] != digit;
            }
            if (free) {
                row[at] = digit;
                addOrders(row, at + 1, into);
            }
        }
    }

    private static int rings(int[] order) {
        boolean[] seen = new boolean[order.length];
        int rings = 0;
        for (int start = 0; start < order.length; start++) {
            if (!seen[start]) {
                rings++;
            }
            for (int d = start; !seen[d]; d = order[d]) {
                seen[d] = true;
            }
        }
        return rings;
    }

    private static int falls(int[] order) {
        int falls = 0;
        for (int at = 0; at + 1 < order.length; at++) {
            falls += order[at + 1] < order[at] ? 1 : 0;
        }
        return falls;
    }

    private static int lesserPairs(int[] order) {
        int pairs = 0;
        for (int at = 0; at < order.length; at++) {
            for (int later = at + 1; later < order.length; later++) {
                pairs += order[later] < order[at] ? 1 : 0;
            }
        }
        return pairs;
    }

    private static int heights(int[] order) {
        int heights = 0;
        int greatest = -1;
        for (int digit : order) {
            heights += digit > greatest ? 1 : 0;
            greatest = Math.max(greatest, digit);
        }
        return heights;
    }

    /** Every choice of places is tried. */
    private static int longestRise(int[] order) {
        int longest = 0;
        for (int chosen = 0; chosen < 1 << order.length; chosen++) {
            int last = -1;
            for (int at = 0; at < order.length; at++) {
                if ((chosen >> at & 1) == 1) {
                    last = order[at] > last ? order[at] : order.length;
                }
            }
            if (last < order.length) {
                longest = Math.max(longest, Integer.bitCount(chosen));
            }
        }
        return longest;
    }

    /** The packed orders of n with a MARK of v, in order. */
    static List<Integer> marked(int n, int mark, int v) {
        List<int[]> all = ordersOf(n);
        List<Integer> found = new ArrayList<>();
        for (int i = 0; i < all.size(); i++) {
            if (ALL_MARKS.get(n).get(i)[mark] == v) {
                found.add(packed(all.get(i)));
            }
        }
        return found;
    }

    int orders(int n, int mark, int v, int i) {
        if (out(n, 1, 8) || out(mark, 0, 4) || out(v, 0, 28) || i < -1) {
            return -1;
        }
        List<Integer> all = marked(n, mark, v);
        return i == -1 ? all.size() : i < all.size() ? all.get(i) : -4;
    }

    int rank(int n, int order) {
        if (out(n, 1, 8)) {
            return -1;
        }
        List<int[]> all = ordersOf(n);
        for (int i = 0; i < all.size(); i++) {
            if (packed(all.get(i)) == order) {
                return i;
            }
        }
        return -1;
    }

    int mark(int n, int order, int mark) {
        int rank = rank(n, order);
        return rank < 0 || out(mark, 0, 4) ? -1 : ALL_MARKS.get(n).get(rank)[mark];
    }

    int over(int n, int order) {
        int rank = rank(n, order);
        if (rank < 0) {
            return -1;
        }
        int[] digits = ordersOf(n).get(rank);
        int[] turned = new int[n];
        for (int place = 0; place < n; place++) {
            turned[digits[place]] = place;
        }
        return packed(turned);
    }

    int behind(int n, int a, int b) {
        int first = rank(n, a);
        int second = rank(n, b);
        if (first < 0 || second < 0) {
            return -1;
        }
        int[] both = new int[n];
        for (int d = 0; d < n; d++) {
            both[d] = ordersOf(n).get(first)[ordersOf(n).get(second)[d]];
        }
        return packed(both);
    }

    // ---- polynomials

    int base(int p, int newBase) {
        if (out(p, 0, 3) || out(newBase, 0, 3)) {
            return -1;
        }
        int was = base[p];
        base[p] = newBase;
        polynomial[p] = new long[9];
        return was;
    }

    long set(int p, int k, long v) {
        if (out(p, 0, 3) || out(k, 0, 8) || out(v, -1_000_000, 1_000_000)) {
            return LONG_BAD;
        }
        long was = polynomial[p][k];
        polynomial[p][k] = v;
        return was;
    }

    long coefficient(int p, int k) {
        return out(p, 0, 3) || out(k, 0, 8) ? LONG_BAD : polynomial[p][k];
    }

    private int degree(int p) {
        int degree = -4;
        for (int k = 0; k <= 8; k++) {
            degree = polynomial[p][k] != 0 ? k : degree;
        }
        return degree;
    }

    int told(int p, int what) {
        return out(p, 0, 3) || out(what, 0, 1) ? -1 : what == 0 ? base[p] : degree(p);
    }

    /** SCALE times the k-th of a BASE, in powers of x. */
    private static BigInteger[] basis(int base, int k) {
        BigInteger[] powers = new BigInteger[10];
        Arrays.fill(powers, BigInteger.ZERO);
        powers[0] = SCALE;
        for (int i = 0; i < k; i++) {
            BigInteger plus = BigInteger.valueOf(base == 0 ? 0 : base == 2 ? i : -i);
            for (int j = 9; j >= 0; j--) {
                powers[j] = powers[j].multiply(plus).add(j > 0 ? powers[j - 1] : BigInteger.ZERO);
            }
        }
        if (base == 3) {
            for (int j = 0; j < 10; j++) {
                powers[j] = powers[j].divide(factorial(k));
            }
        }
        return powers;
    }

    private static BigInteger factorial(int k) {
        return k < 2 ? BigInteger.ONE : factorial(k - 1).multiply(BigInteger.valueOf(k));
    }

    /** SCALE times the polynomial, in powers of x. */
    private BigInteger[] powers(int p) {
        BigInteger[] sum = new BigInteger[10];
        Arrays.fill(sum, BigInteger.ZERO);
        for (int k = 0; k <= 8; k++) {
            BigInteger[] one = basis(base[p], k);
            for (int j = 0; j < 10; j++) {
                sum[j] = sum[j].add(one[j].multiply(BigInteger.valueOf(polynomial[p][k])));
            }
        }
        return sum;
    }

    /** The coefficients in a BASE, taken away from the highest down; null where NO. */
    private long[] turned(int p, int target) {
        BigInteger[] left = powers(p);
        long[] found = new long[9];
        for (int k = 8; k >= 0; k--) {
            BigInteger[] one = basis(target, k);
            BigInteger[] both = left[k].divideAndRemainder(one[k]);
            if (both[1].signum() != 0 || over(both[0], E6)) {
                return null;
            }
            found[k] = both[0].longValueExact();
            for (int j = 0; j < 10; j++) {
                left[j] = left[j].subtract(one[j].multiply(both[0]));
            }
        }
        return found;
    }

    int turn(int p, int target) {
        if (out(p, 0, 3) || out(target, 0, 3)) {
            return -1;
        }
        long[] found = turned(p, target);
        if (found == null) {
            return -2;
        }
        polynomial[p] = found;
        base[p] = target;
        return degree(p);
    }

    private BigInteger difference(int p, int x, int j) {
        if (j > 0) {
            return difference(p, x + 1, j - 1).subtract(difference(p, x, j - 1));
        }
        BigInteger[] powers = powers(p);
        BigInteger sum = BigInteger.ZERO;
        for (int k = 9; k >= 0; k--) {
            sum = sum.multiply(BigInteger.valueOf(x)).add(powers[k]);
        }
        return sum.divide(SCALE);
    }

    long value(int p, int x, int j) {
        if (out(p, 0, 3) || out(x, -20, 20) || out(j, 0, 8)) {
            return LONG_BAD;
        }
        return difference(p, x, j).longValueExact();
    }

    /** By its values at 0 to 8: their differences at 0 are the coefficients of choices. */
    int sumUp(int p) {
        if (out(p, 0, 3)) {
            return -1;
        }
        if (degree(p) == 8 || turned(p, 3) == null) {
            return -2;
        }
        BigInteger[] sums = new BigInteger[9];
        sums[0] = BigInteger.ZERO;
        for (int x = 1; x <= 8; x++) {
            sums[x] = sums[x - 1].add(difference(p, x - 1, 0));
        }
        long[] found = new long[9];
        for (int k = 0; k <= 8; k++) {
            found[k] = sums[0].longValueExact();
            for (int x = 0; x < 8 - k; x++) {
                sums[x] = sums[x + 1].subtract(sums[x]);
            }
        }
        polynomial[p] = found;
        base[p] = 3;
        return degree(p);
    }

    int root(int p, int i) {
        if (out(p, 0, 3) || i < -1) {
            return -1001;
        }
        List<Integer> roots = new ArrayList<>();
        for (int x = -20; x <= 20; x++) {
            if (difference(p, x, 0).signum() == 0) {
                roots.add(x);
            }
        }
        return i == -1 ? roots.size() : i < roots.size() ? roots.get(i) : -1004;
    }

    int count(int what) {
        if (out(what, 0, 2)) {
            return -1;
        }
        int all = what == 0 ? text.length() : 0;
        for (int i = 0; i < 4; i++) {
            all += what == 1 ? items[i] : 0;
            for (int k = 0; k <= 8 && what == 2; k++) {
                all += polynomial[i][k] != 0 ? 1 : 0;
            }
        }
        return all;
    }
}
