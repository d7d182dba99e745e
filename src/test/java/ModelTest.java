import java.util.Random;

/** Long runs of chance calls (with fixed seeds), ordinary, at the edges and wrong, held against the Model. */
public final class ModelTest {
    private static final int RUNS = 1500;
    private static final int CALLS = 250;
    // One round writes 70 times at most, and an object answers for 512 calls.
    private static final int MOST_BEFORE_A_ROUND = 512 - 75;
    private static final int[] FAR = {
        Integer.MIN_VALUE, Integer.MIN_VALUE + 1, -1_000_000_007, -65536, 65536, 1 << 28,
        1_000_000_007, Integer.MAX_VALUE - 1, Integer.MAX_VALUE,
    };
    private static final String[] KNOWN = {
        "a1,0,0;b1,0,0;", "a1,0,0;b0,0,1;", "a1,0,0;b-1,1,0;", "a1,0,0;b1,-1,0;", "a0,1,-1;b1,0,1;",
        "a1,0,0;b-1,0,0;", "a-1,0,0;b1,0,0;", "a1,0,0;b9,9,9;", "a2,0,0;b1,0,0;", "a1,0,0;b0,0,-1;",
        "a1,0,0;b-1,1,1;", "a-1,0,0;b1,-1,-1;", "a1,0,0;", "b1,0,0;", "a-1,0,0;s-1;", "a1,0,0;b9,0,-3;",
    };

    private final Random chance;
    private final CountTriangles x = new CountTriangles();
    private final Model y = new Model();

    private ModelTest(long seed) {
        chance = new Random(seed);
    }

    public static void main(String[] args) {
        for (int run = 0; run < RUNS; run++) {
            ModelTest test = new ModelTest(run);
            int before = Due.asked();
            for (int call = 0; call < CALLS && Due.asked() - before < MOST_BEFORE_A_ROUND; call++) {
                test.call(run % 3 == 0 ? test.chance.nextInt(27) : test.group(run % 3));
            }
        }
        Due.end();
    }

    /** Calls of one part alone, so that they come deep into it. */
    private int group(int part) {
        return part == 1 ? chance.nextInt(11) : 18 + chance.nextInt(9);
    }

    /** A number of a range, at times just beside it, seldom far off. */
    private int near(int least, int most) {
        int kind = chance.nextInt(60);
        if (kind == 0) {
            return FAR[chance.nextInt(FAR.length)];
        }
        if (kind == 1) {
            return chance.nextBoolean() ? least - 1 : most + 1;
        }
        if (kind < 8) {
            return chance.nextBoolean() ? least : most;
        }
        return least + chance.nextInt(most - least + 1);
    }

    private void writeSome() {
        String signs = KNOWN[chance.nextInt(KNOWN.length)];
        if (chance.nextInt(2) == 0) {
            StringBuilder made = new StringBuilder();
            for (int items = chance.nextInt(5); items >= 0; items--) {
                made.append(item());
            }
            signs = made.toString();
        }
        if (chance.nextInt(5) == 0) {
            int at = chance.nextInt(signs.length());
            String sign = String.valueOf("ab-,;s0192 c\u00e1".charAt(chance.nextInt(13)));
            signs = signs.substring(0, at) + sign + signs.substring(at + chance.nextInt(2));
        }
        if (chance.nextInt(4) != 0) {
            Due.due("wipe()", x.wipe(), y.wipe());
        }
        for (int at = 0; at < signs.length(); ) {
            int n = Math.min(1 + chance.nextInt(8), signs.length() - at);
            long v = chance.nextLong();
            for (int i = 0; i < n; i++) {
                v = v << 8 | signs.charAt(at + i);
            }
            Due.due("write(" + n + ", " + v + ")", x.write(n, v), y.write(n, v));
            at += n;
        }
        Due.due("fault() of " + signs, x.fault(), y.fault());
    }

    private String item() {
        int letter = chance.nextInt(3);
        return letter == 2 ? "s" + figure() + ";"
                : "ab".charAt(letter) + "" + figure() + "," + figure() + "," + figure() + ";";
    }

    private int figure() {
        return chance.nextInt(3) == 0 ? chance.nextInt(19) - 9 : chance.nextInt(4) - 1;
    }

    private int order(int n) {
        if (n < 1 || n > 8 || chance.nextInt(10) == 0) {
            return near(0, 0x1234);
        }
        int row = y.orders(n, 2, chance.nextInt(n * (n - 1) / 2 + 1), 0);
        if (chance.nextInt(3) != 0) {
            int[] digits = Model.ordersOf(n).get(chance.nextInt(Model.ordersOf(n).size()));
            row = 0;
            for (int digit : digits) {
                row = row << 4 | digit;
            }
        }
        return chance.nextInt(12) == 0 ? row ^ 1 << chance.nextInt(32) : row;
    }

    private int parting(int n) {
        int k = near(1, 8);
        int all = y.parting(n, k, -1);
        int row = all > 0 ? y.parting(n, k, chance.nextInt(all)) : near(0, 0x111);
        return chance.nextInt(6) == 0 ? row ^ 1 << chance.nextInt(32) : row;
    }

    private int place(int n) {
        return near(0, n >= 0 && n <= 60 ? n : 5);
    }

    private long coefficient() {
        switch (chance.nextInt(12)) {
            case 0:
                return chance.nextBoolean() ? 1_000_000 : -1_000_000;
            case 1:
                return chance.nextBoolean() ? 1_000_001 : -1_000_001;
            case 2:
                return chance.nextLong();
            case 3:
                return chance.nextInt(2_000_001) - 1_000_000;
            case 4:
                return 5040 * (chance.nextInt(41) - 20);
            case 5:
                return 24 * (chance.nextInt(41) - 20);
            case 6:
                return 0;
            default:
                return chance.nextInt(21) - 10;
        }
    }

    private void call(int which) {
        if (which < 11) {
            callLaws(which);
        } else if (which < 18) {
            callCounted(which);
        } else {
            callPolynomials(which);
        }
    }

    private void callLaws(int which) {
        int a = near(0, 3);
        int b = near(0, 3);
        int n = near(0, 24);
        int k = place(n);
        switch (which) {
            case 0:
                int bytes = near(1, 8);
                long v = chance.nextLong();
                Due.due("write(" + bytes + ", " + v + ")", x.write(bytes, v), y.write(bytes, v));
                break;
            case 1:
            case 2:
                writeSome();
                Due.due("lay(" + a + ")", x.lay(a), y.lay(a));
                break;
            case 3:
                Due.due("lay(" + a + ")", x.lay(a), y.lay(a));
                break;
            case 4:
                Due.due("number(" + a + ", " + n + ", " + k + ")", x.number(a, n, k), y.number(a, n, k));
                break;
            case 5:
                int sum = near(0, 3);
                Due.due("sum(" + a + ", " + n + ", " + sum + ")", x.sum(a, n, sum), y.sum(a, n, sum));
                break;
            case 6:
                int shape = near(0, 2);
                Due.due("shape(" + a + ", " + n + ", " + shape + ")", x.shape(a, n, shape), y.shape(a, n, shape));
                break;
            case 7:
                int far = near(0, 60);
                int at = place(far);
                int m = near(2, 10000);
                Due.due("rest(" + a + ", " + far + ", " + at + ", " + m + ")",
                        x.rest(a, far, at, m), y.rest(a, far, at, m));
                break;
            case 8:
                Due.due("times(" + a + ", " + b + ", " + n + ", " + k + ")", x.times(a, b, n, k), y.times(a, b, n, k));
                break;
            case 9:
                Due.due("undoes(" + a + ", " + b + ", " + n + ")", x.undoes(a, b, n), y.undoes(a, b, n));
                break;
            default:
                Due.due("back(" + a + ", " + n + ", " + k + ")", x.back(a, n, k), y.back(a, n, k));
                break;
        }
    }

    private void callCounted(int which) {
        int n = near(1, 8);
        int mark = near(0, 4);
        switch (which) {
            case 11:
                int k = near(1, 8);
                int i = near(-1, 100);
                Due.due("parting(" + n + ", " + k + ", " + i + ")", x.parting(n, k, i), y.parting(n, k, i));
                break;
            case 12:
                int row = parting(n);
                Due.due("partRank(" + n + ", " + row + ")", x.partRank(n, row), y.partRank(n, row));
                break;
            case 13:
                int v = near(0, 28);
                int at = near(-1, 4000);
                Due.due("orders(" + n + ", " + mark + ", " + v + ", " + at + ")",
                        x.orders(n, mark, v, at), y.orders(n, mark, v, at));
                break;
            case 14:
                int marked = order(n);
                Due.due("mark(" + n + ", " + marked + ", " + mark + ")", x.mark(n, marked, mark), y.mark(n, marked, mark));
                break;
            case 15:
                int ranked = order(n);
                Due.due("rank(" + n + ", " + ranked + ")", x.rank(n, ranked), y.rank(n, ranked));
                break;
            case 16:
                int turned = order(n);
                Due.due("over(" + n + ", " + turned + ")", x.over(n, turned), y.over(n, turned));
                break;
            default:
                int a = order(n);
                int b = order(n);
                Due.due("behind(" + n + ", " + a + ", " + b + ")", x.behind(n, a, b), y.behind(n, a, b));
                break;
        }
    }

    private void callPolynomials(int which) {
        int p = near(0, 3);
        int k = near(0, 8);
        int base = near(0, 3);
        switch (which) {
            case 18:
                if (chance.nextInt(3) == 0) {
                    Due.due("base(" + p + ", " + base + ")", x.base(p, base), y.base(p, base));
                }
                break;
            case 19:
                long v = coefficient();
                Due.due("set(" + p + ", " + k + ", " + v + ")", x.set(p, k, v), y.set(p, k, v));
                break;
            case 20:
                Due.due("coefficient(" + p + ", " + k + ")", x.coefficient(p, k), y.coefficient(p, k));
                break;
            case 21:
                int what = near(0, 1);
                Due.due("told(" + p + ", " + what + ")", x.told(p, what), y.told(p, what));
                break;
            case 22:
                Due.due("turn(" + p + ", " + base + ")", x.turn(p, base), y.turn(p, base));
                break;
            case 23:
                int at = near(-20, 20);
                Due.due("value(" + p + ", " + at + ", " + k + ")", x.value(p, at, k), y.value(p, at, k));
                break;
            case 24:
                Due.due("sumUp(" + p + ")", x.sumUp(p), y.sumUp(p));
                break;
            case 25:
                int i = near(-1, 4);
                Due.due("root(" + p + ", " + i + ")", x.root(p, i), y.root(p, i));
                break;
            default:
                int counted = near(0, 2);
                Due.due("count(" + counted + ")", x.count(counted), y.count(counted));
                break;
        }
    }
}
