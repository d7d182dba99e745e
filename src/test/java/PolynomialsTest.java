/** Promises 20 to 28, told one by one. */
public final class PolynomialsTest {
    private static final int LEAST = Integer.MIN_VALUE;
    private static final int MOST = Integer.MAX_VALUE;
    private static final int[] NO_SUCH = {-1, 4, LEAST, MOST};

    public static void main(String[] args) {
        base();
        set();
        coefficient();
        told();
        turn();
        turnNo();
        value();
        sumUp();
        sumUpNo();
        root();
        count();
        Due.end();
    }

    private static void coefficients(String what, CountTriangles x, int p, long... want) {
        for (int k = 0; k <= 8; k++) {
            Due.due(what + " coefficient " + k, x.coefficient(p, k), k < want.length ? want[k] : 0);
        }
    }

    private static void base() {
        Due.promise(20, "base", "`int base(int p, int base)`: POLYNOMIAL p is 0 in a BASE: what BASE it had. BAD.");
        CountTriangles x = new CountTriangles();
        for (int wrong : NO_SUCH) {
            Due.due("20: BAD", x.base(wrong, 1), Due.BAD);
            Due.due("20: BAD", x.base(0, wrong), Due.BAD);
        }
        Due.polynomial(x, 0, 0, 1, 2, 3, 4, 5, 6, 7, 8, 9);
        x.base(0, 4);
        coefficients("20: nothing changed", x, 0, 1, 2, 3, 4, 5, 6, 7, 8, 9);
        Due.due("20: it had base 0", x.base(0, 2), 0);
        coefficients("20: it is 0", x, 0);
        Due.due("20: in base 2", x.told(0, 0), 2);
        Due.due("20: it had base 2", x.base(0, 3), 2);
        Due.due("20: it had base 3", x.base(0, 1), 3);
        Due.due("20: it had base 1", x.base(0, 1), 1);
        Due.due("20: others stay", x.told(1, 0), 0);
    }

    private static void set() {
        Due.promise(21, "set",
                "`long set(int p, int k, long v)`: A coefficient (0 to 8) of POLYNOMIAL p is v: what it was."
                        + " BAD (v beyond 10 to the 6).");
        CountTriangles x = new CountTriangles();
        for (int wrong : NO_SUCH) {
            Due.due("21: BAD", x.set(wrong, 0, 1), Due.LONG_BAD);
        }
        for (int wrong : new int[] {-1, 9, LEAST, MOST}) {
            Due.due("21: BAD", x.set(0, wrong, 1), Due.LONG_BAD);
        }
        for (long wrong : new long[] {1000001, -1000001, Long.MIN_VALUE, Long.MAX_VALUE, 1L << 32, -(1L << 32)}) {
            Due.due("21: BAD " + wrong, x.set(0, 3, wrong), Due.LONG_BAD);
        }
        coefficients("21: nothing changed", x, 0);
        Due.due("21: it was 0", x.set(0, 8, 1000000), 0);
        Due.due("21: it was 10 to the 6", x.set(0, 8, -1000000), 1000000);
        Due.due("21: it was less 10 to the 6", x.set(0, 8, 5), -1000000);
        coefficients("21: it alone", x, 0, 0, 0, 0, 0, 0, 0, 0, 0, 5);
        coefficients("21: not of others", x, 1);
        Due.due("21: the lowest", x.set(3, 0, 7), 0);
        coefficients("21: the lowest", x, 3, 7);
    }

    private static void coefficient() {
        Due.promise(22, "coefficient", "`long coefficient(int p, int k)`: A coefficient. BAD.");
        CountTriangles x = new CountTriangles();
        for (int wrong : NO_SUCH) {
            Due.due("22: BAD", x.coefficient(wrong, 0), Due.LONG_BAD);
        }
        for (int wrong : new int[] {-1, 9, LEAST, MOST}) {
            Due.due("22: BAD", x.coefficient(0, wrong), Due.LONG_BAD);
        }
        for (int p = 0; p < 4; p++) {
            for (int k = 0; k <= 8; k++) {
                x.set(p, k, 10 * p + k - 20);
            }
        }
        for (int p = 0; p < 4; p++) {
            for (int k = 0; k <= 8; k++) {
                Due.due("22: " + k + " of " + p, x.coefficient(p, k), 10 * p + k - 20);
            }
        }
    }

    private static void told() {
        Due.promise(23, "told", "`int told(int p, int what)`: BASE (what = 0), DEGREE (1; NONE). BAD.");
        CountTriangles x = new CountTriangles();
        for (int wrong : NO_SUCH) {
            Due.due("23: BAD", x.told(wrong, 0), Due.BAD);
            Due.due("23: BAD", x.told(wrong, 1), Due.BAD);
        }
        for (int wrong : new int[] {-1, 2, LEAST, MOST}) {
            Due.due("23: BAD", x.told(0, wrong), Due.BAD);
        }
        Due.due("23: no degree", x.told(0, 1), Due.NONE);
        x.set(0, 0, -3);
        Due.due("23: degree 0", x.told(0, 1), 0);
        x.set(0, 8, 1);
        Due.due("23: degree 8", x.told(0, 1), 8);
        x.set(0, 8, 0);
        x.set(0, 5, -1);
        Due.due("23: degree 5", x.told(0, 1), 5);
        Due.due("23: base", x.told(0, 0), 0);
    }

    private static void turn() {
        Due.promise(24, "turn",
                "`int turn(int p, int base)`: TURNED into a BASE: its DEGREE (NONE: it is 0). NO; BAD.");
        CountTriangles x = new CountTriangles();
        for (int wrong : NO_SUCH) {
            Due.due("24: BAD", x.turn(wrong, 1), Due.BAD);
            Due.due("24: BAD", x.turn(0, wrong), Due.BAD);
        }
        Due.due("24: 0", x.turn(0, 2), Due.NONE);
        Due.due("24: 0, in base 2", x.told(0, 0), 2);
        // x x x is 1, 3, 1 falling ones; 1, -3, 1 rising ones; 1, 6, 6 choices.
        Due.polynomial(x, 0, 0, 0, 0, 0, 1);
        Due.due("24: into 1", x.turn(0, 1), 3);
        coefficients("24: falling", x, 0, 0, 1, 3, 1);
        Due.due("24: into 2", x.turn(0, 2), 3);
        coefficients("24: rising", x, 0, 0, 1, -3, 1);
        Due.due("24: into 3", x.turn(0, 3), 3);
        coefficients("24: choices", x, 0, 0, 1, 6, 6);
        Due.due("24: its base", x.told(0, 0), 3);
        Due.due("24: the same base", x.turn(0, 3), 3);
        coefficients("24: the same", x, 0, 0, 1, 6, 6);
        Due.due("24: choices into rising ones", x.turn(0, 2), 3);
        coefficients("24: rising", x, 0, 0, 1, -3, 1);
        Due.due("24: into 0", x.turn(0, 0), 3);
        coefficients("24: powers", x, 0, 0, 0, 0, 1);
        // x (x - 1) (x - 2) (x - 3) and x (x + 1) (x + 2) (x + 3).
        Due.polynomial(x, 1, 1, 5, 0, 0, 0, 1);
        Due.due("24: falling into powers", x.turn(1, 0), 4);
        coefficients("24: powers", x, 1, 5, -6, 11, -6, 1);
        Due.polynomial(x, 1, 2, 5, 0, 0, 0, -1);
        Due.due("24: rising into powers", x.turn(1, 0), 4);
        coefficients("24: powers", x, 1, 5, -6, -11, -6, -1);
        // Lah's numbers: 24, 36, 12, 1.
        Due.polynomial(x, 2, 2, 0, 0, 0, 0, 1);
        Due.due("24: rising into falling", x.turn(2, 1), 4);
        coefficients("24: falling", x, 2, 0, 24, 36, 12, 1);
        Due.due("24: and back", x.turn(2, 2), 4);
        coefficients("24: rising", x, 2, 0, 0, 0, 0, 1);
        Due.polynomial(x, 3, 3, 0, 0, 0, 0, 0, 0, 0, 0, 40320);
        Due.due("24: choices into falling", x.turn(3, 1), 8);
        coefficients("24: falling", x, 3, 0, 0, 0, 0, 0, 0, 0, 0, 1);
    }

    private static void turnNo() {
        CountTriangles x = new CountTriangles();
        Due.polynomial(x, 0, 3, 0, 0, 1);
        for (int base = 0; base < 3; base++) {
            Due.due("24: x (x - 1) by 2 is not whole", x.turn(0, base), Due.NO);
            Due.due("24: nothing changed", x.told(0, 0), 3);
            coefficients("24: nothing changed", x, 0, 0, 0, 1);
        }
        Due.due("24: it may stay", x.turn(0, 3), 2);
        // 2 (x (x - 1) by 2) and x: x x.
        Due.polynomial(x, 0, 3, 0, 1, 2);
        Due.due("24: whole again", x.turn(0, 0), 2);
        coefficients("24: x x", x, 0, 0, 0, 1);
        // The limit: 2 a by choices for x (x - 1) a.
        Due.polynomial(x, 1, 1, 0, 0, 500000);
        Due.due("24: just 10 to the 6", x.turn(1, 3), 2);
        coefficients("24: just 10 to the 6", x, 1, 0, 0, 1000000);
        Due.polynomial(x, 1, 1, 0, 0, -500000);
        Due.due("24: just less 10 to the 6", x.turn(1, 3), 2);
        Due.polynomial(x, 1, 1, 0, 0, 500001);
        Due.due("24: above", x.turn(1, 3), Due.NO);
        coefficients("24: nothing changed", x, 1, 0, 0, 500001);
        Due.due("24: nothing changed", x.told(1, 0), 1);
        Due.polynomial(x, 1, 1, 0, 0, -500001);
        Due.due("24: below", x.turn(1, 3), Due.NO);
        Due.polynomial(x, 2, 2, 0, 0, 0, 0, 0, 0, 0, 0, 1000000);
        for (int base : new int[] {0, 1, 3}) {
            Due.due("24: far above", x.turn(2, base), Due.NO);
        }
        coefficients("24: nothing changed", x, 2, 0, 0, 0, 0, 0, 0, 0, 0, 1000000);
        Due.polynomial(x, 3, 0, 1000000, 1000000);
        for (int base : new int[] {1, 2, 3, 0}) {
            Due.due("24: low ones are the same in all", x.turn(3, base), 1);
            coefficients("24: low ones", x, 3, 1000000, 1000000);
        }
    }

    private static void value() {
        Due.promise(25, "value", "`long value(int p, int x, int j)`: DIFFERENCE j at x (j 0: VALUE). BAD.");
        CountTriangles x = new CountTriangles();
        for (int wrong : NO_SUCH) {
            Due.due("25: BAD", x.value(wrong, 0, 0), Due.LONG_BAD);
        }
        for (int wrong : new int[] {-21, 21, LEAST, MOST}) {
            Due.due("25: BAD", x.value(0, wrong, 0), Due.LONG_BAD);
        }
        for (int wrong : new int[] {-1, 9, LEAST, MOST}) {
            Due.due("25: BAD", x.value(0, 0, wrong), Due.LONG_BAD);
        }
        Due.polynomial(x, 0, 0, 7, 0, -1, 2);
        Due.due("25: 7 - 9 + 54", x.value(0, 3, 0), 52);
        Due.due("25: at 0", x.value(0, 0, 0), 7);
        Due.due("25: 7 - 400 - 16000", x.value(0, -20, 0), -16393);
        Due.due("25: 7 - 400 + 16000", x.value(0, 20, 0), 15607);
        Due.due("25: 52 less 19", x.value(0, 2, 1), 33);
        Due.due("25: 2 3 2 1", x.value(0, -20, 3), 12);
        Due.due("25: none left", x.value(0, 5, 4), 0);
        Due.polynomial(x, 1, 1, 0, 0, 0, 1);
        Due.due("25: 5 4 3", x.value(1, 5, 0), 60);
        Due.due("25: (-1)(-2)(-3)", x.value(1, -1, 0), -6);
        Due.due("25: difference 3 5 4", x.value(1, 5, 1), 60);
        Due.polynomial(x, 2, 2, 0, 0, 0, 1);
        Due.due("25: 5 6 7", x.value(2, 5, 0), 210);
        Due.due("25: (-5)(-4)(-3)", x.value(2, -5, 0), -60);
        Due.due("25: (-2)(-1) 0", x.value(2, -2, 0), 0);
        Due.polynomial(x, 3, 3, 0, 0, 0, 1);
        Due.due("25: 3 of 5", x.value(3, 5, 0), 10);
        Due.due("25: 3 of -2", x.value(3, -2, 0), -4);
        Due.due("25: 3 of 2", x.value(3, 2, 0), 0);
        Due.due("25: difference 1 is 2 of 5", x.value(3, 5, 1), 10);
        greatValues(x);
    }

    private static void greatValues(CountTriangles x) {
        Due.polynomial(x, 0, 0, 0, 0, 0, 0, 0, 0, 0, 0, 1000000);
        Due.due("25: 20^8", x.value(0, 20, 0), 25600000000L * 1000000);
        Due.due("25: 21^8 less 20^8", x.value(0, 20, 1), (37822859361L - 25600000000L) * 1000000);
        Due.due("25: 8!", x.value(0, 20, 8), 40320L * 1000000);
        Due.due("25: 8!", x.value(0, -20, 8), 40320L * 1000000);
        Due.polynomial(x, 0, 2, 0, 0, 0, 0, 0, 0, 0, 0, -1000000);
        Due.due("25: less 20 .. 27", x.value(0, 20, 0), -89513424000L * 1000000);
        Due.due("25: 8! and signs", x.value(0, 20, 8), -40320L * 1000000);
        Due.polynomial(x, 0, 3, 0, 0, 0, 0, 0, 0, 0, 0, 1000000);
        Due.due("25: 8 of 20", x.value(0, 20, 0), 125970L * 1000000);
        Due.due("25: 8 of -20", x.value(0, -20, 0), 2220075L * 1000000);
        Due.due("25: difference 8", x.value(0, 20, 8), 1000000);
        Due.due("25: nothing changed", x.told(0, 1), 8);
    }

    private static void sumUp() {
        Due.promise(26, "sumUp", "`int sumUp(int p)`: POLYNOMIAL p is SUMMED: its DEGREE (NONE: it is 0). NO; BAD.");
        CountTriangles x = new CountTriangles();
        for (int wrong : NO_SUCH) {
            Due.due("26: BAD", x.sumUp(wrong), Due.BAD);
        }
        Due.due("26: 0", x.sumUp(0), Due.NONE);
        Due.due("26: 0, in base 3", x.told(0, 0), 3);
        for (int base = 0; base < 4; base++) {
            Due.polynomial(x, 0, base, 4, -3, 0, 24);
            long[] values = new long[20];
            for (int at = 0; at < 20; at++) {
                values[at] = x.value(0, at, 0);
            }
            Due.due("26: degree", x.sumUp(0), 4);
            Due.due("26: base 3", x.told(0, 0), 3);
            long sum = 0;
            for (int at = 0; at < 20; at++) {
                Due.due("26: up to " + at, x.value(0, at, 0), sum);
                sum += values[at];
            }
            Due.due("26: up to 20", x.value(0, 20, 0), sum);
        }
        // x x summed is 0, 0, 1, 5, 14: choices of 2, and twice those of 3.
        Due.polynomial(x, 1, 0, 0, 0, 1);
        Due.due("26: x x", x.sumUp(1), 3);
        coefficients("26: x x", x, 1, 0, 0, 1, 2);
        Due.polynomial(x, 1, 0, 6);
        Due.due("26: 6", x.sumUp(1), 1);
        coefficients("26: 6 x", x, 1, 0, 6);
        Due.polynomial(x, 2, 3, 1, 2, 3, 4, 5, 6, 7, 8);
        Due.due("26: degree 7", x.sumUp(2), 8);
        coefficients("26: one higher each", x, 2, 0, 1, 2, 3, 4, 5, 6, 7, 8);
    }

    private static void sumUpNo() {
        CountTriangles x = new CountTriangles();
        Due.polynomial(x, 0, 3, 1, 2, 3, 4, 5, 6, 7, 8, 9);
        Due.due("26: degree 8", x.sumUp(0), Due.NO);
        coefficients("26: nothing changed", x, 0, 1, 2, 3, 4, 5, 6, 7, 8, 9);
        Due.polynomial(x, 0, 0, 0, 0, 0, 0, 0, 0, 0, 0, 1);
        Due.due("26: degree 8", x.sumUp(0), Due.NO);
        Due.due("26: nothing changed", x.told(0, 0), 0);
        // 7! 198 is below 10 to the 6, 7! 199 above.
        Due.polynomial(x, 1, 1, 0, 0, 0, 0, 0, 0, 0, 199);
        Due.due("26: can't be turned", x.sumUp(1), Due.NO);
        Due.due("26: nothing changed", x.told(1, 0), 1);
        coefficients("26: nothing changed", x, 1, 0, 0, 0, 0, 0, 0, 0, 199);
        Due.polynomial(x, 1, 1, 0, 0, 0, 0, 0, 0, 0, 198);
        Due.due("26: can be turned", x.sumUp(1), 8);
        coefficients("26: 7! 198", x, 1, 0, 0, 0, 0, 0, 0, 0, 0, 997920);
        Due.polynomial(x, 2, 3, 0, 0, 0, 0, 0, 0, 0, 1000000);
        Due.due("26: not whole elsewhere, but there", x.sumUp(2), 8);
    }

    private static void root() {
        Due.promise(27, "root",
                "`int root(int p, int i)`: ROOTS: how many (i = -1), the i-th. NONE answers -1004,"
                        + " BAD -1001.");
        CountTriangles x = new CountTriangles();
        for (int wrong : NO_SUCH) {
            Due.due("27: BAD", x.root(wrong, -1), -1001);
            Due.due("27: BAD", x.root(wrong, 0), -1001);
        }
        Due.due("27: BAD", x.root(0, -2), -1001);
        Due.due("27: BAD", x.root(0, LEAST), -1001);
        Due.due("27: all of 0", x.root(0, -1), 41);
        Due.due("27: the first", x.root(0, 0), -20);
        Due.due("27: the last", x.root(0, 40), 20);
        Due.due("27: there is none", x.root(0, 41), -1004);
        Due.due("27: there is none", x.root(0, MOST), -1004);
        Due.polynomial(x, 1, 0, 1);
        Due.due("27: 1 has none", x.root(1, -1), 0);
        Due.due("27: 1 has none", x.root(1, 0), -1004);
        // x x - 400 has -20 and 20, x x - 441 none from -20 to 20.
        Due.polynomial(x, 1, 0, -400, 0, 1);
        Due.due("27: both ends", x.root(1, -1), 2);
        Due.due("27: -20", x.root(1, 0), -20);
        Due.due("27: 20", x.root(1, 1), 20);
        Due.due("27: no more", x.root(1, 2), -1004);
        Due.polynomial(x, 1, 0, -441, 0, 1);
        Due.due("27: too far", x.root(1, -1), 0);
        Due.polynomial(x, 2, 1, 0, 0, 0, 0, 1);
        for (int i = 0; i < 4; i++) {
            Due.due("27: falling", x.root(2, i), i);
        }
        Due.polynomial(x, 2, 2, 0, 0, 0, 0, 1);
        for (int i = 0; i < 4; i++) {
            Due.due("27: rising", x.root(2, i), i - 3);
        }
        Due.polynomial(x, 2, 3, 0, 0, 0, 0, 0, 0, 0, 0, 1);
        Due.due("27: choices", x.root(2, -1), 8);
        // (2 x - 1)(x + 1): only -1 is whole; x x + 2 x + 1 has -1 once.
        Due.polynomial(x, 3, 0, -1, 1, 2);
        Due.due("27: whole ones alone", x.root(3, -1), 1);
        Due.polynomial(x, 3, 0, 1, 2, 1);
        Due.due("27: one that is so twice", x.root(3, -1), 1);
        Due.due("27: -1", x.root(3, 0), -1);
    }

    private static void count() {
        Due.promise(28, "count",
                "`int count(int what)`: How many: 0 bytes of THE TEXT, 1 ITEMS of all LAWS, 2"
                        + " coefficients other than 0. BAD.");
        CountTriangles x = new CountTriangles();
        for (int wrong : new int[] {-1, 3, LEAST, MOST}) {
            Due.due("28: BAD", x.count(wrong), Due.BAD);
        }
        Due.append(x, "s1;s2;");
        Due.due("28: bytes", x.count(0), 6);
        Due.due("28: no items yet", x.count(1), 0);
        x.lay(0);
        x.lay(3);
        Due.due("28: items of all laws", x.count(1), 4);
        Due.text(x, "a1,0,0;");
        Due.due("28: the text alone is anew", x.count(1), 4);
        x.lay(3);
        Due.due("28: one law anew", x.count(1), 3);
        Due.polynomial(x, 0, 0, 1, 0, -1);
        Due.polynomial(x, 3, 2, 0, 0, 0, 0, 0, 0, 0, 0, 9);
        Due.due("28: coefficients", x.count(2), 3);
        x.set(0, 0, 0);
        Due.due("28: one less", x.count(2), 2);
        x.turn(0, 1);
        Due.due("28: less x x is less x and less x (x - 1)", x.count(2), 3);
        x.base(3, 0);
        Due.due("28: that of others", x.count(2), 2);
    }
}
