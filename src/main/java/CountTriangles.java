import java.util.Arrays;

/**
 * Triangles of counts, what they count, and polynomials in four bases.
 * The document DOC.md tells the promises; words in capitals are its terms.
 */
public final class CountTriangles {
    public static final int BAD = -1, NO = -2, FULL = -3, NONE = -4;

    private static final long LONG_BAD = -1_000_000_000_000_000_001L;
    private static final long LONG_NO = -1_000_000_000_000_000_002L;
    // A root may be any of -20 to 20, so these answers lie further out.
    private static final int ROOT_BAD = -1001;
    private static final int ROOT_NONE = -1004;

    private static final int LAWS = 4;
    private static final int POLYNOMIALS = 4;
    private static final int LAST_ROW = 24;
    private static final int LAST_REST_ROW = 60;
    private static final int MOST_MODULUS = 10_000;
    private static final int THINGS = 8;
    private static final int MOST_MARK = 28;
    private static final int MARKS = 5;
    private static final int BASES = 4;
    private static final int FACTORS = 8;
    private static final long MOST_COEFFICIENT = 1_000_000L;
    private static final int FARTHEST = 20;
    // Tables over 0 to 8 things have this many rows and columns.
    private static final int WIDE = THINGS + 1;

    private static final int[] FACTORIALS = {1, 1, 2, 6, 24, 120, 720, 5040, 40320};

    private final Text text = new Text();
    private final Law[] laws = new Law[LAWS];
    private final Partings partings = new Partings();
    private final Orders orders = new Orders();
    private final Polynomial[] polynomials = new Polynomial[POLYNOMIALS];

    public CountTriangles() {
        for (int l = 0; l < LAWS; l++) {
            laws[l] = new Law();
        }
        for (int p = 0; p < POLYNOMIALS; p++) {
            polynomials[p] = new Polynomial();
        }
    }

    // ---- laws

    public int write(int n, long v) {
        if (!within(n, 1, 8)) {
            return BAD;
        }
        return text.append(n, v) ? text.length() : FULL;
    }

    public int wipe() {
        int was = text.length();
        text.clear();
        return was;
    }

    public int fault() {
        return text.firstFault();
    }

    public int lay(int l) {
        if (!isLaw(l)) {
            return BAD;
        }
        if (text.firstFault() != NONE) {
            return NO;
        }
        laws[l].layFrom(text);
        return laws[l].items();
    }

    public long number(int l, int n, int k) {
        if (!isLaw(l) || !isPlace(n, k, LAST_ROW)) {
            return LONG_BAD;
        }
        return answer(laws[l].numberAt(n, k));
    }

    public long sum(int l, int n, int what) {
        if (!isLaw(l) || !within(n, 0, LAST_ROW) || !within(what, 0, 3)) {
            return LONG_BAD;
        }
        switch (what) {
            case 0:
                return answer(laws[l].rowSum(n, false));
            case 1:
                return answer(laws[l].rowSum(n, true));
            case 2:
                return answer(laws[l].slantSum(n));
            default:
                return answer(laws[l].squareSum(n));
        }
    }

    public int shape(int l, int n, int what) {
        if (!isLaw(l) || !within(n, 0, LAST_ROW) || !within(what, 0, 2)) {
            return BAD;
        }
        long most = what == 2 ? Law.MOST_SQUARED : Law.MOST;
        if (!laws[l].rowKeepsTo(n, most)) {
            return NO;
        }
        switch (what) {
            case 0:
                return laws[l].greatestPlace(n);
            case 1:
                return laws[l].breakPlace(n);
            default:
                return laws[l].bowedPlace(n);
        }
    }

    public int rest(int l, int n, int k, int m) {
        if (!isLaw(l) || !isPlace(n, k, LAST_REST_ROW) || !within(m, 2, MOST_MODULUS)) {
            return BAD;
        }
        return laws[l].restAt(n, k, m);
    }

    public long times(int a, int b, int n, int k) {
        if (!isLaw(a) || !isLaw(b) || !isPlace(n, k, LAST_ROW)) {
            return LONG_BAD;
        }
        return answer(laws[a].productAt(laws[b], n, k));
    }

    public int undoes(int a, int b, int n) {
        if (!isLaw(a) || !isLaw(b) || !within(n, 0, LAST_ROW)) {
            return BAD;
        }
        return laws[a].firstRowNotUndone(laws[b], n);
    }

    public long back(int a, int n, int k) {
        if (!isLaw(a) || !isPlace(n, k, LAST_ROW)) {
            return LONG_BAD;
        }
        return answer(laws[a].inverseAt(n, k));
    }

    // ---- what is counted

    public int parting(int n, int k, int i) {
        if (!within(n, 1, THINGS) || !within(k, 1, THINGS) || i < -1) {
            return BAD;
        }
        partings.want(k);
        int all = partings.howMany(n);
        if (i == -1) {
            return all;
        }
        return i < all ? partings.ith(n, i) : NONE;
    }

    public int partRank(int n, int row) {
        if (!within(n, 1, THINGS)) {
            return BAD;
        }
        int parts = partings.partsOf(n, row);
        if (parts == 0) {
            return BAD;
        }
        partings.want(parts);
        return partings.rankOf(n, row);
    }

    public int orders(int n, int mark, int v, int i) {
        if (!within(n, 1, THINGS) || !within(mark, 0, MARKS - 1)) {
            return BAD;
        }
        if (!within(v, 0, MOST_MARK) || i < -1) {
            return BAD;
        }
        int all = orders.howMany(n, mark, v);
        if (i == -1) {
            return all;
        }
        return i < all ? orders.ith(n, mark, v, i) : NONE;
    }

    public int mark(int n, int order, int mark) {
        if (!isOrder(n, order) || !within(mark, 0, MARKS - 1)) {
            return BAD;
        }
        return orders.markOf(n, order, mark);
    }

    public int rank(int n, int order) {
        return isOrder(n, order) ? orders.rankOf(n, order) : BAD;
    }

    public int over(int n, int order) {
        return isOrder(n, order) ? orders.turnedOver(n, order) : BAD;
    }

    public int behind(int n, int a, int b) {
        return isOrder(n, a) && isOrder(n, b) ? orders.oneBehind(n, a, b) : BAD;
    }

    // ---- polynomials

    public int base(int p, int base) {
        if (!isPolynomial(p) || !within(base, 0, BASES - 1)) {
            return BAD;
        }
        int was = polynomials[p].baseNow();
        polynomials[p].clearIn(base);
        return was;
    }

    public long set(int p, int k, long v) {
        if (!isPolynomial(p) || !within(k, 0, FACTORS) || beyond(v, MOST_COEFFICIENT)) {
            return LONG_BAD;
        }
        long was = polynomials[p].at(k);
        polynomials[p].put(k, v);
        return was;
    }

    public long coefficient(int p, int k) {
        if (!isPolynomial(p) || !within(k, 0, FACTORS)) {
            return LONG_BAD;
        }
        return polynomials[p].at(k);
    }

    public int told(int p, int what) {
        if (!isPolynomial(p) || !within(what, 0, 1)) {
            return BAD;
        }
        return what == 0 ? polynomials[p].baseNow() : polynomials[p].degree();
    }

    public int turn(int p, int base) {
        if (!isPolynomial(p) || !within(base, 0, BASES - 1)) {
            return BAD;
        }
        return polynomials[p].turnInto(base) ? polynomials[p].degree() : NO;
    }

    public long value(int p, int x, int j) {
        if (!isPolynomial(p) || !within(x, -FARTHEST, FARTHEST) || !within(j, 0, FACTORS)) {
            return LONG_BAD;
        }
        return polynomials[p].difference(x, j);
    }

    public int sumUp(int p) {
        if (!isPolynomial(p)) {
            return BAD;
        }
        return polynomials[p].becomeSum() ? polynomials[p].degree() : NO;
    }

    public int root(int p, int i) {
        if (!isPolynomial(p) || i < -1) {
            return ROOT_BAD;
        }
        int seen = 0;
        for (int x = -FARTHEST; x <= FARTHEST; x++) {
            if (polynomials[p].valueAt(x) == 0) {
                if (seen == i) {
                    return x;
                }
                seen++;
            }
        }
        return i == -1 ? seen : ROOT_NONE;
    }

    public int count(int what) {
        switch (what) {
            case 0:
                return text.length();
            case 1:
                return itemsOfLaws();
            case 2:
                return coefficientsInUse();
            default:
                return BAD;
        }
    }

    private int itemsOfLaws() {
        int all = 0;
        for (int l = 0; l < LAWS; l++) {
            all += laws[l].items();
        }
        return all;
    }

    private int coefficientsInUse() {
        int all = 0;
        for (int p = 0; p < POLYNOMIALS; p++) {
            all += polynomials[p].inUse();
        }
        return all;
    }

    private boolean isOrder(int n, int order) {
        return within(n, 1, THINGS) && orders.isOne(n, order);
    }

    private static boolean isLaw(int l) {
        return within(l, 0, LAWS - 1);
    }

    private static boolean isPolynomial(int p) {
        return within(p, 0, POLYNOMIALS - 1);
    }

    private static boolean isPlace(int n, int k, int lastRow) {
        return within(n, 0, lastRow) && within(k, 0, n);
    }

    private static boolean within(int number, int least, int most) {
        return number >= least && number <= most;
    }

    private static boolean beyond(long number, long most) {
        return number > most || number < -most;
    }

    private static long answer(long number) {
        return number == Law.TOO_GREAT ? LONG_NO : number;
    }

    /** Digit of a row told by four bits a digit, the first the highest. */
    private static int digitAt(int row, int n, int place) {
        return row >>> (4 * (n - 1 - place)) & 15;
    }

    /** Whether a row has no bits above its n digits. */
    private static boolean hasDigitsAlone(int row, int n) {
        // A shift by all 32 bits would shift by none.
        return n >= THINGS || row >>> (4 * n) == 0;
    }

    /** THE TEXT: its bytes, and the ITEMS that they make. */
    private static final class Text {
        private static final int MOST_BYTES = 120;
        private static final int NOTHING = -1;

        private final byte[] bytes = new byte[MOST_BYTES];
        private int length = 0;

        int length() {
            return length;
        }

        void clear() {
            length = 0;
        }

        /** Whether the n low bytes of v found room. */
        boolean append(int n, long v) {
            if (n > MOST_BYTES - length) {
                return false;
            }
            for (int i = n - 1; i >= 0; i--) {
                bytes[length] = (byte) (v >>> (8 * i));
                length++;
            }
            return true;
        }

        int byteAt(int place) {
            return place >= 0 && place < length ? bytes[place] & 255 : NOTHING;
        }

        int firstFault() {
            int place = 0;
            for (int items = 0; items < MOST_BYTES && place < length; items++) {
                int end = itemEnd(place);
                if (end == NOTHING) {
                    return place;
                }
                place = end;
            }
            return NONE;
        }

        /** The place behind the ITEM that begins at a place; NOTHING if none does. */
        int itemEnd(int place) {
            int due = numbersBehind(byteAt(place));
            if (due == 0) {
                return NOTHING;
            }
            int at = place + 1;
            for (int i = 1; i <= due; i++) {
                int end = numberEnd(at);
                if (byteAt(end) != (i < due ? ',' : ';')) {
                    return NOTHING;
                }
                at = end + 1;
            }
            return at;
        }

        private static int numbersBehind(int letter) {
            if (letter == 'a' || letter == 'b') {
                return 3;
            }
            return letter == 's' ? 1 : 0;
        }

        private int numberEnd(int place) {
            boolean minus = byteAt(place) == '-';
            int at = minus ? place + 1 : place;
            int figure = byteAt(at);
            return figure >= (minus ? '1' : '0') && figure <= '9' ? at + 1 : NOTHING;
        }

        /** The number that begins at a place of an ITEM without FAULT. */
        int numberFrom(int place) {
            return byteAt(place) == '-' ? '0' - byteAt(place + 1) : byteAt(place) - '0';
        }

        /** Where the next number begins in an ITEM without FAULT. */
        int nextNumber(int place) {
            return byteAt(place) == '-' ? place + 3 : place + 2;
        }
    }

    /** A LAW and the numbers of its TRIANGLE. */
    private static final class Law {
        static final long MOST = 100_000_000_000_000_000L;
        static final long MOST_SQUARED = 100_000_000L;
        // No number that is not TOO GREAT comes near it.
        static final long TOO_GREAT = -9_000_000_000_000_000_000L;

        private final int[] left = new int[3];
        private final int[] above = new int[3];
        private final long[] numbers = new long[(LAST_ROW + 1) * (LAST_ROW + 2) / 2];
        private final long[] column = new long[LAST_ROW + 1];
        private final int[] rests = new int[LAST_REST_ROW + 1];
        private int top = 1;
        private int items = 0;

        Law() {
            numbers[0] = top;
        }

        int items() {
            return items;
        }

        /** Lays a TEXT without FAULT. */
        void layFrom(Text text) {
            Arrays.fill(left, 0);
            Arrays.fill(above, 0);
            top = 1;
            items = 0;
            int place = 0;
            for (int i = 0; i < Text.MOST_BYTES && place < text.length(); i++) {
                int end = text.itemEnd(place);
                if (end == Text.NOTHING) {
                    break;
                }
                takeItem(text, place);
                items++;
                place = end;
            }
            fillNumbers();
        }

        private void takeItem(Text text, int place) {
            int letter = text.byteAt(place);
            if (letter == 's') {
                top = text.numberFrom(place + 1);
                return;
            }
            int[] factors = letter == 'a' ? left : above;
            int at = place + 1;
            for (int i = 0; i < 3; i++) {
                factors[i] = text.numberFrom(at);
                at = text.nextNumber(at);
            }
        }

        private void fillNumbers() {
            numbers[0] = top;
            int at = 1;
            for (int n = 1; n <= LAST_ROW; n++) {
                for (int k = 0; k <= n && at < numbers.length; k++) {
                    numbers[at] = madeOfAbove(n, k);
                    at++;
                }
            }
        }

        private long madeOfAbove(int n, int k) {
            long first = part(factor(left, n, k), numberAt(n - 1, k - 1));
            long second = part(factor(above, n, k), numberAt(n - 1, k));
            if (first == TOO_GREAT || second == TOO_GREAT) {
                return TOO_GREAT;
            }
            return limited(first + second);
        }

        private static int factor(int[] factors, int n, int k) {
            return factors[0] + factors[1] * n + factors[2] * k;
        }

        private static long part(int factor, long number) {
            // What comes 0 times is harmless, however great.
            return factor == 0 ? 0 : product(factor, number);
        }

        private static long limited(long number) {
            return beyond(number, MOST) ? TOO_GREAT : number;
        }

        /** Tested by division, since two numbers' product may be beyond a long. */
        private static long product(long a, long b) {
            if (a == TOO_GREAT || b == TOO_GREAT) {
                return TOO_GREAT;
            }
            if (b != 0 && Math.abs(a) > MOST / Math.abs(b)) {
                return TOO_GREAT;
            }
            return a * b;
        }

        /** T(n, k), 0 for what is not there, or TOO_GREAT. */
        long numberAt(int n, int k) {
            return isPlace(n, k, LAST_ROW) ? numbers[n * (n + 1) / 2 + k] : 0;
        }

        boolean rowKeepsTo(int n, long most) {
            for (int k = 0; k <= n; k++) {
                if (beyond(numberAt(n, k), most)) {
                    return false;
                }
            }
            return true;
        }

        long rowSum(int n, boolean signs) {
            if (!rowKeepsTo(n, MOST)) {
                return TOO_GREAT;
            }
            long sum = 0;
            for (int k = 0; k <= n; k++) {
                sum += signs && k % 2 == 1 ? -numberAt(n, k) : numberAt(n, k);
            }
            return sum;
        }

        long slantSum(int n) {
            long sum = 0;
            for (int k = 0; k <= n - k; k++) {
                long number = numberAt(n - k, k);
                if (number == TOO_GREAT) {
                    return TOO_GREAT;
                }
                sum += number;
            }
            return sum;
        }

        long squareSum(int n) {
            if (!rowKeepsTo(n, MOST_SQUARED)) {
                return TOO_GREAT;
            }
            long sum = 0;
            for (int k = 0; k <= n; k++) {
                sum += numberAt(n, k) * numberAt(n, k);
            }
            return sum;
        }

        int greatestPlace(int n) {
            int best = 0;
            for (int k = 1; k <= n; k++) {
                if (numberAt(n, k) > numberAt(n, best)) {
                    best = k;
                }
            }
            return best;
        }

        int breakPlace(int n) {
            boolean fell = false;
            for (int k = 0; k < n; k++) {
                if (fell && numberAt(n, k + 1) > numberAt(n, k)) {
                    return k;
                }
                fell = fell || numberAt(n, k + 1) < numberAt(n, k);
            }
            return NONE;
        }

        int bowedPlace(int n) {
            for (int k = 1; k < n; k++) {
                long square = numberAt(n, k) * numberAt(n, k);
                if (square < numberAt(n, k - 1) * numberAt(n, k + 1)) {
                    return k;
                }
            }
            return NONE;
        }

        int restAt(int n, int k, int m) {
            if (m < 1 || !isPlace(n, k, LAST_REST_ROW)) {
                return 0;
            }
            Arrays.fill(rests, 0);
            rests[0] = Math.floorMod(top, m);
            for (int r = 1; r <= n; r++) {
                // From the right, so that what is above to the left is still there.
                for (int j = Math.min(r, k); j > 0; j--) {
                    int sum = factor(left, r, j) * rests[j - 1] + factor(above, r, j) * rests[j];
                    rests[j] = Math.floorMod(sum, m);
                }
                rests[0] = Math.floorMod(factor(above, r, 0) * rests[0], m);
            }
            return rests[k];
        }

        long productAt(Law other, int n, int k) {
            long sum = 0;
            for (int j = k; j <= n; j++) {
                long part = product(numberAt(n, j), other.numberAt(j, k));
                if (part == TOO_GREAT) {
                    return TOO_GREAT;
                }
                sum += part;
            }
            return sum;
        }

        int firstRowNotUndone(Law other, int last) {
            for (int n = 0; n <= last; n++) {
                for (int k = 0; k <= n; k++) {
                    long number = productAt(other, n, k);
                    if (number == TOO_GREAT) {
                        return NO;
                    }
                    if (number != (k == n ? 1 : 0)) {
                        return n;
                    }
                }
            }
            return NONE;
        }

        /** X(n, k) of BACK, or TOO_GREAT where the answer is NO. */
        long inverseAt(int n, int k) {
            if (!isPlace(n, k, LAST_ROW) || !endsInOnes(n)) {
                return TOO_GREAT;
            }
            column[k] = numberAt(k, k);
            for (int m = k + 1; m <= n; m++) {
                long sum = columnSum(m, k);
                if (sum == TOO_GREAT) {
                    return TOO_GREAT;
                }
                column[m] = -numberAt(m, m) * sum;
            }
            return column[n];
        }

        /** The sum of A(m, j) X(j, k), j from k to m - 1. */
        private long columnSum(int m, int k) {
            long sum = 0;
            for (int j = k; j < m && j <= LAST_ROW; j++) {
                long part = product(numberAt(m, j), column[j]);
                if (part == TOO_GREAT) {
                    return TOO_GREAT;
                }
                sum += part;
            }
            return limited(sum);
        }

        private boolean endsInOnes(int last) {
            for (int n = 0; n <= last; n++) {
                if (numberAt(n, n) != 1 && numberAt(n, n) != -1) {
                    return false;
                }
            }
            return true;
        }
    }

    /** PARTINGS, walked through digit by digit with the ways that are left. */
    private static final class Partings {
        // By digits left and parts begun: the ways to end with the parts wanted.
        private final int[] ways = new int[WIDE * WIDE];

        /** From now on, only those into k parts. */
        void want(int k) {
            for (int parts = 0; parts < WIDE; parts++) {
                ways[parts] = parts == k ? 1 : 0;
            }
            for (int left = 1; left < WIDE; left++) {
                for (int parts = 0; parts < WIDE; parts++) {
                    ways[left * WIDE + parts] =
                            parts * waysFrom(left - 1, parts) + waysFrom(left - 1, parts + 1);
                }
            }
        }

        private int waysFrom(int left, int parts) {
            return within(left, 0, THINGS) && within(parts, 0, THINGS) ? ways[left * WIDE + parts] : 0;
        }

        int howMany(int n) {
            return waysFrom(n, 0);
        }

        /** The i-th; i is less than how many there are. */
        int ith(int n, int i) {
            int row = 0;
            int parts = 0;
            int ahead = i;
            for (int left = n - 1; left >= 0; left--) {
                int each = waysFrom(left, parts);
                int digit = each > 0 ? Math.min(ahead / each, parts) : parts;
                ahead -= digit * each;
                row = row << 4 | digit;
                parts = Math.max(parts, digit + 1);
            }
            return row;
        }

        /** How many parts a row tells; 0 if it is no PARTING. */
        int partsOf(int n, int row) {
            if (!hasDigitsAlone(row, n)) {
                return 0;
            }
            int parts = 0;
            for (int place = 0; place < n; place++) {
                int digit = digitAt(row, n, place);
                if (digit > parts) {
                    return 0;
                }
                parts = Math.max(parts, digit + 1);
            }
            return parts;
        }

        int rankOf(int n, int row) {
            int ahead = 0;
            int parts = 0;
            for (int place = 0; place < n; place++) {
                int digit = digitAt(row, n, place);
                // Lesser digits are all of parts begun already.
                ahead += digit * waysFrom(n - 1 - place, parts);
                parts = Math.max(parts, digit + 1);
            }
            return ahead;
        }
    }

    /**
     * ORDERS, walked through digit by digit. Of the digits left, j tells one:
     * so many that are left are lesser.
     */
    private static final class Orders {
        private final int[] row = new int[THINGS];
        private final int[] source = new int[THINGS];
        private final Mark[] marks = new Mark[MARKS];

        Orders() {
            Rings rings = new Rings();
            marks[0] = rings;
            marks[1] = new Falls();
            marks[2] = new LesserPairs();
            marks[3] = new Heights(rings);
            marks[4] = new LongestRise();
        }

        boolean isOne(int n, int order) {
            if (!hasDigitsAlone(order, n)) {
                return false;
            }
            int seen = 0;
            for (int place = 0; place < n; place++) {
                seen |= 1 << digitAt(order, n, place);
            }
            return seen == (1 << n) - 1;
        }

        int howMany(int n, int mark, int v) {
            return marks[mark].ways(marks[mark].start(n), n, v);
        }

        /** The i-th with a MARK of v; i is less than how many there are. */
        int ith(int n, int mark, int v, int i) {
            Mark kind = marks[mark];
            int state = kind.start(n);
            int more = v;
            int ahead = i;
            int unused = (1 << n) - 1;
            for (int place = 0; place < n && place < THINGS; place++) {
                int left = n - place;
                for (int j = 0; j < left; j++) {
                    row[place] = unusedDigit(unused, j);
                    int growth = kind.growth(state, left, j, row, place);
                    int next = kind.next(state, left, j);
                    int ways = kind.ways(next, left - 1, more - growth);
                    if (ahead < ways) {
                        state = next;
                        more -= growth;
                        break;
                    }
                    ahead -= ways;
                }
                unused &= ~(1 << row[place]);
            }
            return packed(n);
        }

        private static int unusedDigit(int unused, int j) {
            int rest = unused;
            for (int i = 0; i < j; i++) {
                rest &= rest - 1;
            }
            // As many digits are lesser as bits are below the lowest one that is left.
            return Integer.bitCount((rest & -rest) - 1);
        }

        int markOf(int n, int order, int mark) {
            unpack(n, order, row);
            Mark kind = marks[mark];
            int state = kind.start(n);
            int grown = 0;
            for (int place = 0; place < n; place++) {
                int j = lesserLater(n, place);
                grown += kind.growth(state, n - place, j, row, place);
                state = kind.next(state, n - place, j);
            }
            return grown;
        }

        int rankOf(int n, int order) {
            unpack(n, order, row);
            int ahead = 0;
            for (int place = 0; place < n && place < THINGS; place++) {
                ahead += lesserLater(n, place) * FACTORIALS[n - 1 - place];
            }
            return ahead;
        }

        int turnedOver(int n, int order) {
            unpack(n, order, source);
            for (int place = 0; place < n && place < THINGS; place++) {
                row[source[place]] = place;
            }
            return packed(n);
        }

        int oneBehind(int n, int a, int b) {
            unpack(n, a, source);
            for (int place = 0; place < n && place < THINGS; place++) {
                row[place] = source[digitAt(b, n, place)];
            }
            return packed(n);
        }

        private int lesserLater(int n, int place) {
            int lesser = 0;
            for (int later = place + 1; later < n && later < THINGS; later++) {
                if (row[later] < row[place]) {
                    lesser++;
                }
            }
            return lesser;
        }

        private static void unpack(int n, int order, int[] digits) {
            for (int place = 0; place < n && place < digits.length; place++) {
                digits[place] = digitAt(order, n, place);
            }
        }

        private int packed(int n) {
            int order = 0;
            for (int place = 0; place < n && place < THINGS; place++) {
                order = order << 4 | row[place];
            }
            return order;
        }
    }

    /**
     * A MARK, told by how it grows from digit to digit. A state holds what the
     * digits so far mean for those that are left.
     */
    private abstract static class Mark {
        /** The state ahead of the first of n digits. */
        abstract int start(int n);

        /** By how much the j-th of the digits left, standing at a place of the row, lets it grow. */
        abstract int growth(int state, int left, int j, int[] row, int place);

        /** The state behind the j-th of the digits left. */
        abstract int next(int state, int left, int j);

        /** How many orders of the digits left let it grow by just so much more. */
        abstract int ways(int state, int left, int more);
    }

    /** Each digit so far leads on, so as many open chains are left as digits: no state is needed. */
    private static final class Rings extends Mark {
        private final int[] table = new int[WIDE * WIDE];

        Rings() {
            table[0] = 1;
            for (int left = 1; left < WIDE; left++) {
                for (int more = 0; more < WIDE; more++) {
                    table[left * WIDE + more] =
                            ways(0, left - 1, more - 1) + (left - 1) * ways(0, left - 1, more);
                }
            }
        }

        @Override
        int start(int n) {
            return 0;
        }

        @Override
        int growth(int state, int left, int j, int[] row, int place) {
            int digit = place;
            // The chain from here through places that are filled: a ring, if it comes back.
            for (int steps = 0; steps <= place && digit >= 0 && digit < row.length; steps++) {
                digit = row[digit];
                if (digit >= place) {
                    break;
                }
            }
            return digit == place ? 1 : 0;
        }

        @Override
        int next(int state, int left, int j) {
            return 0;
        }

        @Override
        int ways(int state, int left, int more) {
            return within(left, 0, THINGS) && within(more, 0, THINGS) ? table[left * WIDE + more] : 0;
        }
    }

    /** The state is how many of the digits left are lesser than the last one. */
    private static final class Falls extends Mark {
        private final int[] table = new int[WIDE * WIDE * WIDE];

        Falls() {
            table[0] = 1;
            for (int left = 1; left < WIDE; left++) {
                for (int lesser = 0; lesser <= left; lesser++) {
                    for (int more = 0; more < WIDE; more++) {
                        table[(left * WIDE + lesser) * WIDE + more] = waysByNext(lesser, left, more);
                    }
                }
            }
        }

        private int waysByNext(int lesser, int left, int more) {
            int all = 0;
            for (int j = 0; j < left; j++) {
                all += ways(j, left - 1, j < lesser ? more - 1 : more);
            }
            return all;
        }

        @Override
        int start(int n) {
            return 0;
        }

        @Override
        int growth(int state, int left, int j, int[] row, int place) {
            return j < state ? 1 : 0;
        }

        @Override
        int next(int state, int left, int j) {
            return j;
        }

        @Override
        int ways(int state, int left, int more) {
            if (!within(left, 0, THINGS) || !within(state, 0, left) || !within(more, 0, THINGS)) {
                return 0;
            }
            return table[(left * WIDE + state) * WIDE + more];
        }
    }

    /** Each digit makes a pair with every lesser one left, whatever stood ahead: no state is needed. */
    private static final class LesserPairs extends Mark {
        private final int[] table = new int[WIDE * (MOST_MARK + 1)];

        LesserPairs() {
            table[0] = 1;
            for (int left = 1; left < WIDE; left++) {
                for (int more = 0; more <= MOST_MARK; more++) {
                    table[left * (MOST_MARK + 1) + more] = waysByNext(left, more);
                }
            }
        }

        private int waysByNext(int left, int more) {
            int all = 0;
            for (int j = 0; j < left; j++) {
                all += ways(0, left - 1, more - j);
            }
            return all;
        }

        @Override
        int start(int n) {
            return 0;
        }

        @Override
        int growth(int state, int left, int j, int[] row, int place) {
            return j;
        }

        @Override
        int next(int state, int left, int j) {
            return 0;
        }

        @Override
        int ways(int state, int left, int more) {
            if (!within(left, 0, THINGS) || !within(more, 0, MOST_MARK)) {
                return 0;
            }
            return table[left * (MOST_MARK + 1) + more];
        }
    }

    /** The state is how many of the digits left are greater than all so far. */
    private static final class Heights extends Mark {
        private final Rings rings;

        Heights(Rings rings) {
            this.rings = rings;
        }

        @Override
        int start(int n) {
            return n;
        }

        @Override
        int growth(int state, int left, int j, int[] row, int place) {
            return j >= left - state ? 1 : 0;
        }

        @Override
        int next(int state, int left, int j) {
            return Math.min(state, left - 1 - j);
        }

        @Override
        int ways(int state, int left, int more) {
            if (!within(left, 0, THINGS) || !within(state, 0, left)) {
                return 0;
            }
            // As many orders have so many heights as have so many rings; lesser
            // digits may stand anywhere between the greater ones.
            return FACTORIALS[left] / FACTORIALS[state] * rings.ways(0, state, more);
        }
    }

    /**
     * For each length the rises so far of that length keep the least digit that
     * ends one: the ENDS. A digit takes the place of the next greater END, or
     * makes a longer rise. The state is a word of bits below a leading 1, lesser
     * digits lower: 0 a digit that is left, 1 an END. All others are forgotten.
     */
    private static final class LongestRise extends Mark {
        private static final int WORDS = 1 << WIDE;

        // By word: the ways to come to the length wanted.
        private final int[] table = new int[WORDS];
        private int wanted = 0;

        @Override
        int start(int n) {
            return 1 << n;
        }

        @Override
        int growth(int state, int left, int j, int[] row, int place) {
            return Integer.bitCount(next(state, left, j)) - Integer.bitCount(state);
        }

        @Override
        int next(int state, int left, int j) {
            int passed = 0;
            for (int bit = 0; bit < THINGS; bit++) {
                if ((state >>> bit & 1) == 0) {
                    if (passed == j) {
                        return withEnd(state, 1 << bit);
                    }
                    passed++;
                }
            }
            return state;
        }

        private static int withEnd(int word, int end) {
            int filled = word | end;
            int above = word & -(end << 1);
            int greater = above & -above;
            if (greater > word >>> 1) {
                // Only the leading 1 is above: no END is greater.
                return filled;
            }
            // The greater END goes, and what is above it moves down.
            return filled >>> 1 & -greater | filled & (greater - 1);
        }

        @Override
        int ways(int state, int left, int more) {
            int length = Integer.bitCount(state) - 1 + more;
            if (!within(state, 1, WORDS - 1) || !within(length, 1, THINGS) || more < 0) {
                return 0;
            }
            if (length != wanted) {
                wanted = length;
                fillTable();
            }
            return table[state];
        }

        /** A digit shortens a word or lets it be greater, so those come first. */
        private void fillTable() {
            for (int bits = 0; bits <= THINGS; bits++) {
                int full = (2 << bits) - 1;
                table[full] = bits == wanted ? 1 : 0;
                for (int word = full - 1; word >= 1 << bits; word--) {
                    table[word] = waysByNext(word, bits);
                }
            }
        }

        private int waysByNext(int word, int bits) {
            int all = 0;
            for (int bit = 0; bit < bits; bit++) {
                if ((word >>> bit & 1) == 0) {
                    int next = withEnd(word, 1 << bit);
                    all += within(next, 0, WORDS - 1) ? table[next] : 0;
                }
            }
            return all;
        }
    }

    /** A POLYNOMIAL: each BASE begins with 1, and its next one has one factor x - zero more. */
    private static final class Polynomial {
        private static final int POWERS = 0, RISING = 2, CHOICES = 3;

        private final long[] coefficients = new long[FACTORS + 1];
        private final long[] room = new long[FACTORS + 1];
        private int base = POWERS;

        int baseNow() {
            return base;
        }

        void clearIn(int newBase) {
            Arrays.fill(coefficients, 0);
            base = newBase;
        }

        long at(int k) {
            return within(k, 0, FACTORS) ? coefficients[k] : 0;
        }

        void put(int k, long v) {
            if (within(k, 0, FACTORS)) {
                coefficients[k] = v;
            }
        }

        int degree() {
            for (int k = FACTORS; k >= 0; k--) {
                if (coefficients[k] != 0) {
                    return k;
                }
            }
            return NONE;
        }

        int inUse() {
            int all = 0;
            for (int k = 0; k <= FACTORS; k++) {
                if (coefficients[k] != 0) {
                    all++;
                }
            }
            return all;
        }

        /** Where the factor is 0 that comes behind k others. */
        private static int zero(int ofBase, int k) {
            if (ofBase == POWERS) {
                return 0;
            }
            return ofBase == RISING ? -k : k;
        }

        long valueAt(int x) {
            long sum = 0;
            long factors = 1;
            for (int k = 0; k <= FACTORS; k++) {
                sum += coefficients[k] * factors;
                factors *= x - zero(base, k);
                if (base == CHOICES) {
                    factors /= k + 1;
                }
            }
            return sum;
        }

        long difference(int x, int j) {
            for (int i = 0; i <= j && i <= FACTORS; i++) {
                room[i] = valueAt(x + i);
            }
            for (int rounds = j; rounds > 0; rounds--) {
                for (int i = 0; i < rounds && i < FACTORS; i++) {
                    room[i] = room[i + 1] - room[i];
                }
            }
            return room[0];
        }

        /** Whether it could be TURNED; nothing changes if not. */
        boolean turnInto(int target) {
            if (!findTurned(target)) {
                return false;
            }
            System.arraycopy(room, 0, coefficients, 0, FACTORS + 1);
            base = target;
            return true;
        }

        /** Whether it could be SUMMED; nothing changes if not. */
        boolean becomeSum() {
            if (degree() == FACTORS || !findTurned(CHOICES)) {
                return false;
            }
            // Choices of k, summed up to x - 1, are choices of k + 1 of x.
            System.arraycopy(room, 0, coefficients, 1, FACTORS);
            coefficients[0] = 0;
            base = CHOICES;
            return true;
        }

        /** Puts the coefficients in another BASE into the room; whether they may stand there. */
        private boolean findTurned(int target) {
            if (target == base) {
                System.arraycopy(coefficients, 0, room, 0, FACTORS + 1);
                return true;
            }
            if (base == CHOICES && !choicesAreWholeFalling()) {
                return false;
            }
            Arrays.fill(room, 0);
            for (int k = FACTORS; k >= 0; k--) {
                multiplyRoom(target, zero(base, k));
                room[0] += base == CHOICES ? coefficients[k] / FACTORIALS[k] : coefficients[k];
            }
            return roomMayStand(target);
        }

        /**
         * The other three BASES have 1 as their highest coefficients, so what is
         * whole in one of them is whole in all.
         */
        private boolean choicesAreWholeFalling() {
            for (int k = 0; k <= FACTORS; k++) {
                if (coefficients[k] % FACTORIALS[k] != 0) {
                    return false;
                }
            }
            return true;
        }

        /** The room, in a BASE (falling ones for choices), times x - factorZero. */
        private void multiplyRoom(int target, int factorZero) {
            for (int k = FACTORS; k >= 0; k--) {
                long raised = k > 0 ? room[k - 1] : 0;
                room[k] = raised + (zero(target, k) - factorZero) * room[k];
            }
        }

        private boolean roomMayStand(int target) {
            for (int k = 0; k <= FACTORS; k++) {
                if (target == CHOICES) {
                    room[k] *= FACTORIALS[k];
                }
                if (beyond(room[k], MOST_COEFFICIENT)) {
                    return false;
                }
            }
            return true;
        }
    }
}
