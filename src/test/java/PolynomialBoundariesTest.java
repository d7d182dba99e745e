/** POLYNOMIALS (promises 20 to 28): a test for each sentence that names a boundary case. */
public final class PolynomialBoundariesTest {
    private static final int LEAST = Integer.MIN_VALUE;
    private static final int MOST = Integer.MAX_VALUE;
    private static final long E6 = 1_000_000;
    private static final int POWERS = 0, FALLING = 1, RISING = 2, CHOICES = 3;
    private static final int[] FACTORIALS = {1, 1, 2, 6, 24, 120, 720, 5040, 40320};
    private static final int ROOT_BAD = -1001, ROOT_NONE = -1004;

    public static void main(String[] args) {
        polynomialsAndBases();
        coefficientLimits();
        factorsAtFirst();
        degree();
        turnedHighest();
        turnedNotWhole();
        turnedBeyond();
        differenceOrders();
        differencePlaces();
        summedFromZero();
        summedNo();
        rootsFromTo();
        rootsHowMany();
        baseAnswers();
        setAnswers();
        coefficientAnswers();
        toldAnswers();
        turnAnswers();
        valueAnswers();
        sumUpAnswers();
        rootAnswers();
        countAnswers();
        Due.end();
    }

    private static CountTriangles with(int base, long... coefficients) {
        CountTriangles x = new CountTriangles();
        Due.polynomial(x, 0, base, coefficients);
        return x;
    }

    /** c times the one of k factors alone. */
    private static CountTriangles withOne(int base, int k, long c) {
        CountTriangles x = new CountTriangles();
        x.base(0, base);
        x.set(0, k, c);
        return x;
    }

    private static void holds(CountTriangles x, int base, long... coefficients) {
        Due.due("its BASE", x.told(0, 0), base);
        for (int k = 0; k <= 8; k++) {
            Due.due("its coefficient " + k, x.coefficient(0, k), k < coefficients.length ? coefficients[k] : 0);
        }
    }

    private static void polynomialsAndBases() {
        Due.sentence("POLYNOMIALS 0 to 3, each in a BASE: 0 powers of x, 1 falling: x (x - 1) .. ,"
                + " 2 rising: x (x + 1) .. , 3 choices: falling ones by 1 2 .. k;");
        CountTriangles x = new CountTriangles();
        long[] atThree = {6561, 0, 1814400, 0};
        long[] atLessTwo = {256, 362880, 0, 9};
        for (int p = 0; p <= 3; p++) {
            Due.due("POLYNOMIAL " + p, x.base(p, p), 0);
            x.set(p, 8, 1);
            Due.due("8 factors at 3", x.value(p, 3, 0), atThree[p]);
            Due.due("8 factors at -2", x.value(p, -2, 0), atLessTwo[p]);
            Due.due("8 factors at 0", x.value(p, 0, 0), 0);
        }
        for (int p = 0; p <= 3; p++) {
            Due.due("each has its own BASE", x.told(p, 0), p);
            x.base(p, p);
            x.set(p, 0, 5);
            Due.due("no factor", x.value(p, 20, 0), 5);
            Due.due("no factor", x.value(p, 0, 0), 5);
            x.set(p, 0, 0);
            x.set(p, 1, 5);
            Due.due("one factor", x.value(p, -20, 0), -100);
        }
        Due.due("no POLYNOMIAL 4", x.base(4, 0), Due.BAD);
        Due.due("no POLYNOMIAL -1", x.base(-1, 0), Due.BAD);
        Due.due("no BASE 4", x.base(0, 4), Due.BAD);
        Due.due("no BASE -1", x.base(0, -1), Due.BAD);
    }

    private static void coefficientLimits() {
        Due.sentence("with whole coefficients (to 10 to the 6 either way)");
        CountTriangles x = new CountTriangles();
        for (int k = 0; k <= 8; k++) {
            Due.due("just 10 to the 6", x.set(0, k, E6), 0);
            Due.due("one more", x.set(0, k, E6 + 1), Due.LONG_BAD);
            Due.due("it stays", x.coefficient(0, k), E6);
            Due.due("just less 10 to the 6", x.set(0, k, -E6), E6);
            Due.due("one less", x.set(0, k, -E6 - 1), Due.LONG_BAD);
            Due.due("it stays", x.coefficient(0, k), -E6);
        }
        for (long far : new long[] {Long.MIN_VALUE, Long.MAX_VALUE, 1L << 32, -(1L << 32), (1L << 32) + 5}) {
            Due.due("far off: " + far, x.set(0, 0, far), Due.LONG_BAD);
        }
        Due.due("it stays", x.coefficient(0, 0), -E6);
    }

    private static void factorsAtFirst() {
        Due.sentence("of those of 0 to 8 factors (at first BASE 0, all 0).");
        CountTriangles x = new CountTriangles();
        for (int p = 0; p <= 3; p++) {
            Due.due("BASE 0", x.told(p, 0), 0);
            for (int k = 0; k <= 8; k++) {
                Due.due("coefficient " + k, x.coefficient(p, k), 0);
            }
            Due.due("0 factors", x.set(p, 0, 1), 0);
            Due.due("8 factors", x.set(p, 8, 1), 0);
            Due.due("9 factors", x.set(p, 9, 1), Due.LONG_BAD);
            Due.due("-1 factors", x.set(p, -1, 1), Due.LONG_BAD);
            Due.due("9 factors", x.coefficient(p, 9), Due.LONG_BAD);
            Due.due("-1 factors", x.coefficient(p, -1), Due.LONG_BAD);
        }
    }

    private static void degree() {
        Due.sentence("DEGREE: the highest k with a coefficient other than 0; none.");
        CountTriangles x = new CountTriangles();
        Due.due("none at first", x.told(0, 1), Due.NONE);
        for (int k = 0; k <= 8; k++) {
            x.set(0, k, k % 2 == 0 ? 1 : -1);
            Due.due("the highest", x.told(0, 1), k);
        }
        for (int k = 0; k < 8; k++) {
            x.set(0, k, 0);
            Due.due("the highest stays", x.told(0, 1), 8);
        }
        x.set(0, 8, 0);
        Due.due("none again", x.told(0, 1), Due.NONE);
    }

    private static void turnedHighest() {
        Due.sentence("TURNED into a BASE: the same polynomial there");
        CountTriangles x = with(FALLING, 1, 1, 1, 1, 1, 1, 1, 1, 1);
        Due.due("all of 0 to 8 factors", x.turn(0, CHOICES), 8);
        holds(x, CHOICES, 1, 1, 2, 6, 24, 120, 720, 5040, 40320);
        Due.due("and back", x.turn(0, FALLING), 8);
        holds(x, FALLING, 1, 1, 1, 1, 1, 1, 1, 1, 1);
        for (int from = POWERS; from <= CHOICES; from++) {
            for (int to = POWERS; to <= CHOICES; to++) {
                CountTriangles turned = with(from, 3, -5, 4, 0, 24);
                Due.due("its DEGREE", turned.turn(0, to), 4);
                CountTriangles same = with(from, 3, -5, 4, 0, 24);
                for (int at = -20; at <= 20; at++) {
                    Due.due("the same at " + at, turned.value(0, at, 0), same.value(0, at, 0));
                }
            }
        }
    }

    private static void turnedNotWhole() {
        Due.sentence("(NO: its coefficients there are not all whole,");
        for (int base = POWERS; base <= RISING; base++) {
            for (int k = 2; k <= 8; k++) {
                for (long off : new long[] {1, -1, FACTORIALS[k] / 2}) {
                    CountTriangles x = withOne(CHOICES, k, FACTORIALS[k] + off);
                    Due.due("not whole with " + k + " factors", x.turn(0, base), Due.NO);
                    Due.due("it stays", x.coefficient(0, k), FACTORIALS[k] + off);
                    Due.due("it stays", x.told(0, 0), CHOICES);
                }
                Due.due("whole with " + k + " factors", withOne(CHOICES, k, FACTORIALS[k]).turn(0, base), k);
                Due.due("whole with " + k + " factors", withOne(CHOICES, k, -FACTORIALS[k]).turn(0, base), k);
            }
            Due.due("one of all is not", with(CHOICES, 1, 1, 3, 6, 24).turn(0, base), Due.NO);
            Due.due("0 or 1 factors are whole", with(CHOICES, 7, -7).turn(0, base), 1);
        }
        CountTriangles x = with(CHOICES, 0, 0, 1);
        Due.due("whole where it is", x.turn(0, CHOICES), 2);
        holds(x, CHOICES, 0, 0, 1);
    }

    private static void turnedBeyond() {
        Due.sentence("or one is above 10 to the 6 or below less that).");
        for (int sign : new int[] {1, -1}) {
            // x (x - 1) twice is 2 choices: the highest coefficient.
            CountTriangles x = with(FALLING, 0, 0, sign * 500000);
            Due.due("just 10 to the 6", x.turn(0, CHOICES), 2);
            holds(x, CHOICES, 0, 0, sign * E6);
            x = with(FALLING, 0, 0, sign * 500001);
            Due.due("2 beyond", x.turn(0, CHOICES), Due.NO);
            holds(x, FALLING, 0, 0, sign * 500001);
            // c x x and d x is c x (x - 1) and c + d times x: one below the highest.
            x = with(POWERS, 0, sign * 400000, sign * 600000);
            Due.due("just 10 to the 6", x.turn(0, FALLING), 2);
            holds(x, FALLING, 0, sign * E6, sign * 600000);
            x = with(POWERS, 0, sign * 400001, sign * 600000);
            Due.due("1 beyond", x.turn(0, FALLING), Due.NO);
            holds(x, POWERS, 0, sign * 400001, sign * 600000);
            Due.due("1 beyond", with(RISING, 0, sign * 400001, sign * 600000).turn(0, POWERS), Due.NO);
            Due.due("just 10 to the 6", with(RISING, 0, sign * 400000, sign * 600000).turn(0, POWERS), 2);
            Due.due("1 beyond", with(FALLING, 0, -sign * 400001, sign * 600000).turn(0, POWERS), Due.NO);
            Due.due("1 beyond", with(POWERS, 0, -sign * 400001, sign * 600000).turn(0, RISING), Due.NO);
            // 40320 times 24 is below 10 to the 6, times 25 above.
            Due.due("967680", withOne(FALLING, 8, sign * 24).turn(0, CHOICES), 8);
            Due.due("1008000", withOne(FALLING, 8, sign * 25).turn(0, CHOICES), Due.NO);
            Due.due("far beyond", withOne(RISING, 8, sign * E6).turn(0, CHOICES), Due.NO);
            Due.due("far beyond", withOne(RISING, 8, sign * E6).turn(0, FALLING), Due.NO);
            Due.due("it may stay", withOne(RISING, 8, sign * E6).turn(0, RISING), 8);
            x = with(POWERS, sign * E6, sign * E6);
            for (int base : new int[] {FALLING, RISING, CHOICES, POWERS}) {
                Due.due("0 and 1 factors are the same in each", x.turn(0, base), 1);
                holds(x, base, sign * E6, sign * E6);
            }
        }
    }

    private static void differenceOrders() {
        Due.sentence("DIFFERENCE j (0 to 8)");
        CountTriangles x = withOne(POWERS, 8, 1);
        Due.due("0", x.value(0, 1, 0), 1);
        Due.due("1", x.value(0, 1, 1), 255);
        Due.due("8", x.value(0, 1, 8), 40320);
        Due.due("9", x.value(0, 1, 9), Due.LONG_BAD);
        Due.due("-1", x.value(0, 1, -1), Due.LONG_BAD);
        x = withOne(POWERS, 7, 1);
        Due.due("7", x.value(0, 20, 7), 5040);
        Due.due("8", x.value(0, 20, 8), 0);
        Due.due("of 0", new CountTriangles().value(0, 20, 8), 0);
        for (int j = 0; j <= 8; j++) {
            Due.due("j of 8 choices at 8 - j", withOne(CHOICES, 8, 1).value(0, 8 - j, j), 1);
            Due.due("j of 8 choices at 7 - j", withOne(CHOICES, 8, 1).value(0, 7 - j, j), j == 8 ? 1 : 0);
        }
    }

    private static void differencePlaces() {
        Due.sentence("at x (-20 to 20): 0 is the VALUE there, j and 1: DIFFERENCE j at x and 1 less that at x.");
        CountTriangles x = with(POWERS, 0, 0, 1);
        Due.due("at 20", x.value(0, 20, 0), 400);
        Due.due("at -20", x.value(0, -20, 0), 400);
        Due.due("at 21", x.value(0, 21, 0), Due.LONG_BAD);
        Due.due("at -21", x.value(0, -21, 0), Due.LONG_BAD);
        // The differences at 20 reach on to 21 and more.
        Due.due("441 less 400", x.value(0, 20, 1), 41);
        Due.due("361 less 400", x.value(0, -20, 1), -39);
        Due.due("484 less twice 441 and 400", x.value(0, 20, 2), 2);
        Due.due("with j at 21", x.value(0, 21, 1), Due.LONG_BAD);
        Due.due("with j at -21", x.value(0, -21, 8), Due.LONG_BAD);
        // The farthest values there are.
        x = withOne(RISING, 8, E6);
        Due.due("20 21 .. 27", x.value(0, 20, 0), 89513424000L * E6);
        Due.due("8 times 21 22 .. 27", x.value(0, 20, 1), 8 * 4475671200L * E6);
        Due.due("20 19 .. 13", x.value(0, -20, 0), 5079110400L * E6);
        Due.due("8!", x.value(0, 20, 8), 40320 * E6);
        x = withOne(FALLING, 8, -E6);
        Due.due("less 20 21 .. 27", x.value(0, -20, 0), -89513424000L * E6);
        Due.due("8 times 20 21 .. 26", x.value(0, -20, 1), 8 * 3315312000L * E6);
        for (int base = POWERS; base <= CHOICES; base++) {
            CountTriangles all = with(base, E6, E6, E6, E6, E6, E6, E6, E6, E6);
            for (int j = 0; j < 8; j++) {
                Due.due("j and 1 at 19", all.value(0, 19, j + 1), all.value(0, 20, j) - all.value(0, 19, j));
                Due.due("j and 1 at -20", all.value(0, -20, j + 1), all.value(0, -19, j) - all.value(0, -20, j));
            }
        }
    }

    private static void summedFromZero() {
        Due.sentence("SUMMED: the polynomial, in BASE 3, whose VALUE at x is the sum of VALUES at 0 to x - 1"
                + " (for x 0 and more)");
        for (int base = POWERS; base <= CHOICES; base++) {
            CountTriangles x = with(base, 7, -3, 0, 6);
            CountTriangles summed = with(base, 7, -3, 0, 6);
            Due.due("its DEGREE", summed.sumUp(0), 4);
            Due.due("its BASE", summed.told(0, 0), CHOICES);
            Due.due("at 0, of none", summed.value(0, 0, 0), 0);
            Due.due("at 1, of the one at 0", summed.value(0, 1, 0), 7);
            long sum = 0;
            for (int at = 0; at <= 20; at++) {
                Due.due("at " + at, summed.value(0, at, 0), sum);
                sum += x.value(0, at, 0);
            }
            Due.due("ahead of 0 it goes on down", summed.value(0, -1, 0), -x.value(0, -1, 0));
        }
    }

    private static void summedNo() {
        Due.sentence("(NO: it can't be TURNED into BASE 3, or its DEGREE is 8)");
        for (int base = POWERS; base <= CHOICES; base++) {
            CountTriangles x = withOne(base, 8, 1);
            Due.due("DEGREE 8", x.sumUp(0), Due.NO);
            holds(x, base, 0, 0, 0, 0, 0, 0, 0, 0, 1);
            Due.due("DEGREE 7", withOne(base, 7, 1).sumUp(0), 8);
        }
        // 5040 times 198 is below 10 to the 6, times 199 above.
        for (int sign : new int[] {1, -1}) {
            CountTriangles x = withOne(FALLING, 7, sign * 199);
            Due.due("beyond 10 to the 6", x.sumUp(0), Due.NO);
            holds(x, FALLING, 0, 0, 0, 0, 0, 0, 0, sign * 199);
            x = withOne(FALLING, 7, sign * 198);
            Due.due("not beyond", x.sumUp(0), 8);
            holds(x, CHOICES, 0, 0, 0, 0, 0, 0, 0, 0, sign * 997920);
            x = with(FALLING, 0, 0, sign * 500000);
            Due.due("just 10 to the 6", x.sumUp(0), 3);
            holds(x, CHOICES, 0, 0, 0, sign * E6);
            x = with(FALLING, 0, 0, sign * 500001);
            Due.due("2 beyond", x.sumUp(0), Due.NO);
            holds(x, FALLING, 0, 0, sign * 500001);
            x = withOne(CHOICES, 7, sign * E6);
            Due.due("it is in BASE 3 already", x.sumUp(0), 8);
            holds(x, CHOICES, 0, 0, 0, 0, 0, 0, 0, 0, sign * E6);
        }
    }

    private static void rootsFromTo() {
        Due.sentence("ROOTS: whole x from -20 to 20 at which it is 0");
        CountTriangles x = with(POWERS, -400, 0, 1);
        Due.due("-20 and 20", x.root(0, -1), 2);
        Due.due("-20", x.root(0, 0), -20);
        Due.due("20", x.root(0, 1), 20);
        Due.due("-21 and 21 are none", with(POWERS, -441, 0, 1).root(0, -1), 0);
        Due.due("20 alone", with(POWERS, -20, 1).root(0, 0), 20);
        Due.due("-20 alone", with(POWERS, 20, 1).root(0, 0), -20);
        Due.due("21", with(POWERS, -21, 1).root(0, 0), ROOT_NONE);
        Due.due("-21", with(POWERS, 21, 1).root(0, 0), ROOT_NONE);
        Due.due("not whole", with(POWERS, -1, 2).root(0, -1), 0);
        Due.due("0", with(POWERS, 0, 1).root(0, 0), 0);
        Due.due("-1 is a root, too", with(POWERS, 1, 1).root(0, 0), -1);
        Due.due("-4 is a root, too", with(POWERS, 4, 1).root(0, 0), -4);
        Due.due("every x for 0", new CountTriangles().root(0, -1), 41);
    }

    private static void rootsHowMany() {
        Due.sentence("at which it is 0: how many; the i-th, rising.");
        CountTriangles x = withOne(FALLING, 8, -3);
        Due.due("0 to 7", x.root(0, -1), 8);
        for (int i = 0; i < 8; i++) {
            Due.due("rising", x.root(0, i), i);
        }
        Due.due("no more", x.root(0, 8), ROOT_NONE);
        x = withOne(RISING, 8, 3);
        Due.due("-7 to 0", x.root(0, -1), 8);
        for (int i = 0; i < 8; i++) {
            Due.due("rising", x.root(0, i), i - 7);
        }
        Due.due("one that is so 8 times", withOne(POWERS, 8, 1).root(0, -1), 1);
        x = new CountTriangles();
        for (int i = 0; i <= 40; i++) {
            Due.due("of 0", x.root(0, i), i - 20);
        }
        Due.due("of 0", x.root(0, 41), ROOT_NONE);
    }

    private static void baseAnswers() {
        Due.sentence("POLYNOMIAL p is 0 in a BASE: what BASE it had. BAD.");
        CountTriangles x = with(POWERS, 1, 2, 3, 4, 5, 6, 7, 8, 9);
        for (int wrong : new int[] {-1, 4, LEAST, MOST}) {
            Due.due("p " + wrong, x.base(wrong, 0), Due.BAD);
            Due.due("BASE " + wrong, x.base(0, wrong), Due.BAD);
        }
        holds(x, POWERS, 1, 2, 3, 4, 5, 6, 7, 8, 9);
        Due.due("BASE 3", x.base(0, 3), 0);
        holds(x, CHOICES);
        Due.due("BASE 0", x.base(0, 0), 3);
        Due.due("p 3", x.base(3, 3), 0);
        x.set(3, 8, 1);
        Due.due("the same BASE", x.base(3, 3), 3);
        Due.due("it is 0", x.told(3, 1), Due.NONE);
    }

    private static void setAnswers() {
        Due.sentence("A coefficient (0 to 8) of POLYNOMIAL p is v: what it was. BAD (v beyond 10 to the 6).");
        CountTriangles x = new CountTriangles();
        for (int p : new int[] {-1, 4, LEAST, MOST}) {
            Due.due("p " + p, x.set(p, 0, 1), Due.LONG_BAD);
        }
        for (int k : new int[] {-1, 9, LEAST, MOST}) {
            Due.due("k " + k, x.set(0, k, 1), Due.LONG_BAD);
        }
        for (long v : new long[] {E6 + 1, -E6 - 1, Long.MIN_VALUE, Long.MAX_VALUE}) {
            Due.due("v " + v, x.set(0, 0, v), Due.LONG_BAD);
        }
        Due.due("all are 0", x.count(2), 0);
        for (int p = 0; p <= 3; p += 3) {
            for (int k = 0; k <= 8; k += 8) {
                Due.due("it was 0", x.set(p, k, E6), 0);
                Due.due("it was 10 to the 6", x.set(p, k, -E6), E6);
                Due.due("it was less 10 to the 6", x.set(p, k, 0), -E6);
                Due.due("it was 0", x.set(p, k, -1), 0);
                Due.due("it was -1, not BAD", x.set(p, k, -2), -1);
            }
        }
    }

    private static void coefficientAnswers() {
        Due.sentence("A coefficient. BAD.");
        CountTriangles x = new CountTriangles();
        x.set(3, 8, -1);
        x.set(0, 0, -2);
        Due.due("-1", x.coefficient(3, 8), -1);
        Due.due("-2", x.coefficient(0, 0), -2);
        for (int p : new int[] {-1, 4, LEAST, MOST}) {
            Due.due("p " + p, x.coefficient(p, 0), Due.LONG_BAD);
        }
        for (int k : new int[] {-1, 9, LEAST, MOST}) {
            Due.due("k " + k, x.coefficient(0, k), Due.LONG_BAD);
        }
    }

    private static void toldAnswers() {
        Due.sentence("BASE (what = 0), DEGREE (1; NONE). BAD.");
        CountTriangles x = new CountTriangles();
        for (int p : new int[] {-1, 4, LEAST, MOST}) {
            Due.due("p " + p, x.told(p, 0), Due.BAD);
            Due.due("p " + p, x.told(p, 1), Due.BAD);
        }
        for (int what : new int[] {-1, 2, LEAST, MOST}) {
            Due.due("what " + what, x.told(0, what), Due.BAD);
        }
        x.base(3, 3);
        Due.due("BASE 3", x.told(3, 0), 3);
        Due.due("NONE", x.told(3, 1), Due.NONE);
        x.set(3, 0, 1);
        Due.due("DEGREE 0", x.told(3, 1), 0);
        x.set(3, 8, 1);
        Due.due("DEGREE 8", x.told(3, 1), 8);
    }

    private static void turnAnswers() {
        Due.sentence("TURNED into a BASE: its DEGREE (NONE: it is 0). NO; BAD.");
        CountTriangles x = with(CHOICES, 0, 0, 1);
        for (int wrong : new int[] {-1, 4, LEAST, MOST}) {
            Due.due("p " + wrong, x.turn(wrong, 0), Due.BAD);
            Due.due("BASE " + wrong + ", ahead of NO", x.turn(0, wrong), Due.BAD);
        }
        Due.due("NO", x.turn(0, 0), Due.NO);
        holds(x, CHOICES, 0, 0, 1);
        for (int base = 0; base <= 3; base++) {
            for (int target = 0; target <= 3; target++) {
                CountTriangles zero = with(base);
                Due.due("it is 0", zero.turn(0, target), Due.NONE);
                holds(zero, target);
                CountTriangles seven = with(base, 7);
                Due.due("DEGREE 0", seven.turn(0, target), 0);
                holds(seven, target, 7);
                // 8 rising factors have 1411200 times 4 choices.
                int want = base == RISING && target == CHOICES ? Due.NO : 8;
                Due.due("DEGREE 8", withOne(base, 8, base == CHOICES ? 40320 : 1).turn(0, target), want);
            }
        }
    }

    private static void valueAnswers() {
        Due.sentence("DIFFERENCE j at x (j 0: VALUE). BAD.");
        CountTriangles x = with(POWERS, -1);
        for (int p : new int[] {-1, 4, LEAST, MOST}) {
            Due.due("p " + p, x.value(p, 0, 0), Due.LONG_BAD);
        }
        for (int at : new int[] {-21, 21, LEAST, MOST}) {
            Due.due("x " + at, x.value(0, at, 0), Due.LONG_BAD);
        }
        for (int j : new int[] {-1, 9, LEAST, MOST}) {
            Due.due("j " + j, x.value(0, 0, j), Due.LONG_BAD);
        }
        Due.due("-1 is a VALUE", x.value(0, 20, 0), -1);
        Due.due("-1 is a VALUE", x.value(0, -20, 0), -1);
        Due.due("j 8", x.value(0, 20, 8), 0);
        Due.due("p 3", x.value(3, -20, 8), 0);
    }

    private static void sumUpAnswers() {
        Due.sentence("POLYNOMIAL p is SUMMED: its DEGREE (NONE: it is 0). NO; BAD.");
        CountTriangles x = new CountTriangles();
        for (int p : new int[] {-1, 4, LEAST, MOST}) {
            Due.due("p " + p, x.sumUp(p), Due.BAD);
        }
        for (int base = 0; base <= 3; base++) {
            CountTriangles zero = with(base);
            Due.due("it is 0", zero.sumUp(0), Due.NONE);
            holds(zero, CHOICES);
            CountTriangles seven = with(base, -7);
            Due.due("less 7 x", seven.sumUp(0), 1);
            holds(seven, CHOICES, 0, -7);
        }
        x.set(3, 0, 1);
        for (int degree = 1; degree <= 8; degree++) {
            Due.due("DEGREE " + degree, x.sumUp(3), degree);
            Due.due("one choice of so many", x.coefficient(3, degree), 1);
            Due.due("nothing else", x.count(2), 1);
        }
        Due.due("DEGREE 8 before", x.sumUp(3), Due.NO);
        Due.due("it stays", x.coefficient(3, 8), 1);
    }

    private static void rootAnswers() {
        Due.sentence("ROOTS: how many (i = -1), the i-th. NONE answers -1004, BAD -1001.");
        CountTriangles x = new CountTriangles();
        for (int p : new int[] {-1, 4, LEAST, MOST}) {
            Due.due("p " + p, x.root(p, -1), ROOT_BAD);
            Due.due("p " + p, x.root(p, 0), ROOT_BAD);
            Due.due("BAD comes ahead of NONE", x.root(p, 41), ROOT_BAD);
        }
        for (int i : new int[] {-2, -3, LEAST}) {
            Due.due("i " + i, x.root(0, i), ROOT_BAD);
        }
        Due.due("how many", x.root(3, -1), 41);
        Due.due("the first", x.root(3, 0), -20);
        Due.due("the last", x.root(3, 40), 20);
        Due.due("none", x.root(3, 41), ROOT_NONE);
        Due.due("none", x.root(3, MOST), ROOT_NONE);
        x.set(3, 0, 1);
        Due.due("how many", x.root(3, -1), 0);
        Due.due("none", x.root(3, 0), ROOT_NONE);
    }

    private static void countAnswers() {
        Due.sentence("How many: 0 bytes of THE TEXT, 1 ITEMS of all LAWS, 2 coefficients other than 0. BAD.");
        CountTriangles x = new CountTriangles();
        for (int what : new int[] {-1, 3, LEAST, MOST}) {
            Due.due("what " + what, x.count(what), Due.BAD);
        }
        for (int what = 0; what <= 2; what++) {
            Due.due("none at first", x.count(what), 0);
        }
        Due.append(x, "s1;".repeat(40));
        Due.due("120 bytes", x.count(0), 120);
        for (int l = 0; l <= 3; l++) {
            x.lay(l);
        }
        Due.due("160 ITEMS", x.count(1), 160);
        x.wipe();
        Due.due("no byte", x.count(0), 0);
        Due.due("160 ITEMS still", x.count(1), 160);
        for (int p = 0; p <= 3; p++) {
            for (int k = 0; k <= 8; k++) {
                x.set(p, k, p % 2 == 0 ? 1 : -1);
            }
        }
        Due.due("36 coefficients", x.count(2), 36);
        x.set(0, 0, 0);
        Due.due("one less", x.count(2), 35);
        x.base(3, 0);
        Due.due("nine less", x.count(2), 26);
        for (int l = 0; l <= 3; l++) {
            x.lay(l);
        }
        Due.due("no ITEM", x.count(1), 0);
    }
}
