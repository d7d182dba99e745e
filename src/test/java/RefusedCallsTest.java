import java.util.ArrayList;
import java.util.List;

/**
 * What holds for all calls: numbers that are none that is told, the answers that
 * refuse a call, which of several comes first, and that nothing changes then.
 */
public final class RefusedCallsTest {
    private static final long E18 = 1_000_000_000_000_000_000L;
    private static final int LEAST = Integer.MIN_VALUE;
    private static final int MOST = Integer.MAX_VALUE;
    private static final int UP = 0x01234567;

    /** A call of the face, told by its numbers. */
    private interface Call {
        long of(CountTriangles x, long... v);
    }

    /** A call with numbers that are good, and from where to where each is. */
    private record Asked(String name, long bad, Call call, long[] good, long[]... ranges) {
    }

    public static void main(String[] args) {
        noneThatIsTold();
        answersOfBad();
        answersOfNo();
        answersOfNone();
        answersOfFull();
        badAheadOfAll();
        noAheadOfNone();
        badChangesNothing();
        noAndFullChangeNothing();
        noneChangesNothing();
        calls512();
        Due.end();
    }

    private static long[] of(long... numbers) {
        return numbers;
    }

    private static List<Asked> allCalls() {
        long bad = -E18 - 1;
        long[] four = of(0, 3);
        long[] row = of(0, 24);
        long[] things = of(1, 8);
        List<Asked> all = new ArrayList<>(lawCalls(bad, four, row));
        all.add(new Asked("parting", -1, (x, v) -> x.parting((int) v[0], (int) v[1], (int) v[2]),
                of(8, 4, 0), things, things, of(-1, MOST)));
        all.add(new Asked("partRank", -1, (x, v) -> x.partRank((int) v[0], (int) v[1]), of(8, 0), things, of(0, 1)));
        all.add(new Asked("orders", -1, (x, v) -> x.orders((int) v[0], (int) v[1], (int) v[2], (int) v[3]),
                of(8, 2, 3, 0), things, of(0, 4), of(0, 28), of(-1, MOST)));
        all.add(new Asked("mark", -1, (x, v) -> x.mark((int) v[0], (int) v[1], (int) v[2]),
                of(8, UP, 0), of(8, 8), of(UP, UP), of(0, 4)));
        all.add(new Asked("rank", -1, (x, v) -> x.rank((int) v[0], (int) v[1]), of(8, UP), of(8, 8), of(UP, UP)));
        all.add(new Asked("over", -1, (x, v) -> x.over((int) v[0], (int) v[1]), of(1, 0), of(1, 1), of(0, 0)));
        all.add(new Asked("behind", -1, (x, v) -> x.behind((int) v[0], (int) v[1], (int) v[2]),
                of(8, UP, UP), of(8, 8), of(UP, UP), of(UP, UP)));
        all.add(new Asked("base", -1, (x, v) -> x.base((int) v[0], (int) v[1]), of(0, 0), four, four));
        all.add(new Asked("set", bad, (x, v) -> x.set((int) v[0], (int) v[1], v[2]),
                of(0, 0, 0), four, of(0, 8), of(-1_000_000, 1_000_000)));
        all.add(new Asked("coefficient", bad, (x, v) -> x.coefficient((int) v[0], (int) v[1]), of(0, 0), four, of(0, 8)));
        all.add(new Asked("told", -1, (x, v) -> x.told((int) v[0], (int) v[1]), of(0, 0), four, of(0, 1)));
        all.add(new Asked("turn", -1, (x, v) -> x.turn((int) v[0], (int) v[1]), of(0, 0), four, four));
        all.add(new Asked("value", bad, (x, v) -> x.value((int) v[0], (int) v[1], (int) v[2]),
                of(0, 0, 0), four, of(-20, 20), of(0, 8)));
        all.add(new Asked("sumUp", -1, (x, v) -> x.sumUp((int) v[0]), of(0), four));
        all.add(new Asked("root", -1001, (x, v) -> x.root((int) v[0], (int) v[1]), of(0, 0), four, of(-1, MOST)));
        all.add(new Asked("count", -1, (x, v) -> x.count((int) v[0]), of(0), of(0, 2)));
        return all;
    }

    private static List<Asked> lawCalls(long bad, long[] four, long[] row) {
        return List.of(
                new Asked("write", -1, (x, v) -> x.write((int) v[0], v[1]),
                        of(1, ';'), of(1, 8), of(Long.MIN_VALUE, Long.MAX_VALUE)),
                new Asked("lay", -1, (x, v) -> x.lay((int) v[0]), of(0), four),
                new Asked("number", bad, (x, v) -> x.number((int) v[0], (int) v[1], (int) v[2]),
                        of(0, 24, 0), four, row, row),
                new Asked("sum", bad, (x, v) -> x.sum((int) v[0], (int) v[1], (int) v[2]),
                        of(0, 24, 0), four, row, of(0, 3)),
                new Asked("shape", -1, (x, v) -> x.shape((int) v[0], (int) v[1], (int) v[2]),
                        of(0, 24, 0), four, row, of(0, 2)),
                new Asked("rest", -1, (x, v) -> x.rest((int) v[0], (int) v[1], (int) v[2], (int) v[3]),
                        of(0, 60, 0, 2), four, of(0, 60), of(0, 60), of(2, 10000)),
                new Asked("times", bad, (x, v) -> x.times((int) v[0], (int) v[1], (int) v[2], (int) v[3]),
                        of(0, 0, 24, 0), four, four, row, row),
                new Asked("undoes", -1, (x, v) -> x.undoes((int) v[0], (int) v[1], (int) v[2]),
                        of(0, 0, 24), four, four, row),
                new Asked("back", bad, (x, v) -> x.back((int) v[0], (int) v[1], (int) v[2]),
                        of(0, 24, 0), four, row, row));
    }

    private static boolean takesLong(Asked asked, int which) {
        return which == asked.good().length - 1 && (asked.name().equals("set") || asked.name().equals("write"));
    }

    /** The numbers just beside a range, and those farthest from it. */
    private static List<Long> beside(Asked asked, int which) {
        long least = asked.ranges()[which][0];
        long most = asked.ranges()[which][1];
        long end = takesLong(asked, which) ? Long.MAX_VALUE : MOST;
        List<Long> found = new ArrayList<>();
        if (least > -end - 1) {
            found.add(least - 1);
            found.add(-end - 1);
        }
        if (most < end) {
            found.add(most + 1);
            found.add(end);
        }
        return found;
    }

    private static void noneThatIsTold() {
        Due.sentence("BAD: a number is none that is told");
        for (Asked asked : allCalls()) {
            CountTriangles x = new CountTriangles();
            for (int which = 0; which < asked.good().length; which++) {
                for (long end : asked.ranges()[which]) {
                    long[] v = asked.good().clone();
                    v[which] = end;
                    Due.due(asked.name() + " with " + end + " as number " + which, asked.call().of(x, v) != asked.bad());
                }
                for (long wrong : beside(asked, which)) {
                    long[] v = asked.good().clone();
                    v[which] = wrong;
                    Due.due(asked.name() + " with " + wrong + " as number " + which, asked.call().of(x, v), asked.bad());
                }
            }
        }
    }

    private static void answersOfBad() {
        Due.sentence("-1 for int, less 10 to the 18 and 1 for long.");
        CountTriangles x = new CountTriangles();
        Due.due("BAD", CountTriangles.BAD, -1);
        Due.due("an int", x.lay(4), -1);
        Due.due("an int", x.count(3), -1);
        Due.due("a long", x.number(4, 0, 0), -1000000000000000001L);
        Due.due("a long", x.coefficient(4, 0), -1000000000000000001L);
        Due.due("a long", x.value(0, 21, 0), -1000000000000000001L);
        Due.due("root alone has its own", x.root(4, 0), -1001);
    }

    private static void answersOfNo() {
        Due.sentence("NO: not as things stand: -2, less 10 to the 18 and 2.");
        CountTriangles x = Due.withLaw("a9,0,0;");
        Due.due("NO", CountTriangles.NO, -2);
        Due.due("number", x.number(0, 18, 18), -1000000000000000002L);
        Due.due("sum", x.sum(0, 18, 0), -1000000000000000002L);
        Due.due("times", x.times(0, 0, 18, 18), -1000000000000000002L);
        Due.due("back", x.back(0, 18, 18), -1000000000000000002L);
        Due.due("shape", x.shape(0, 18, 0), -2);
        x.write(1, 0);
        Due.due("lay", x.lay(0), -2);
        x.set(0, 8, 1000000);
        Due.due("turn", x.turn(0, 3), -2);
        Due.due("sumUp", x.sumUp(0), -2);
        Due.lay(x, 0, "a1,0,0;b1,-1,0;");
        Due.lay(x, 1, "a1,0,0;b0,0,1;");
        Due.due("undoes", x.undoes(0, 1, 24), -2);
    }

    private static void answersOfNone() {
        Due.sentence("NONE: there is none: -4, less 10 to the 18 and 4.");
        CountTriangles x = Due.withLaw("a1,0,0;");
        Due.due("NONE", CountTriangles.NONE, -4);
        Due.due("fault", x.fault(), -4);
        Due.due("shape", x.shape(0, 5, 1), -4);
        Due.due("shape", x.shape(0, 5, 2), -4);
        Due.due("undoes", x.undoes(0, 0, 24), -4);
        Due.due("parting", x.parting(3, 3, 1), -4);
        Due.due("orders", x.orders(3, 0, 3, 1), -4);
        Due.due("told", x.told(0, 1), -4);
        Due.due("turn", x.turn(0, 1), -4);
        Due.due("sumUp", x.sumUp(0), -4);
        Due.due("root alone has its own", x.root(0, 41), -1004);
    }

    private static void answersOfFull() {
        Due.sentence("FULL: -3.");
        CountTriangles x = new CountTriangles();
        Due.due("FULL", CountTriangles.FULL, -3);
        Due.append(x, "s1;".repeat(40));
        Due.due("write", x.write(1, 0), -3);
        Due.due("write", x.write(8, 0), -3);
    }

    private static void badAheadOfAll() {
        Due.sentence("Of several the first;");
        CountTriangles x = busy();
        Due.due("BAD and FULL", x.write(9, 0), Due.BAD);
        Due.due("BAD and FULL", x.write(0, 0), Due.BAD);
        Due.due("FULL", x.write(8, 0), Due.FULL);
        Due.due("BAD and NO", x.lay(4), Due.BAD);
        Due.due("NO", x.lay(0), Due.NO);
        // LAW 2 is TOO GREAT in all of row 24.
        Due.due("BAD and NO", x.number(2, 24, 25), Due.LONG_BAD);
        Due.due("BAD and NO", x.sum(2, 24, 4), Due.LONG_BAD);
        Due.due("BAD and NO", x.sum(2, 25, 0), Due.LONG_BAD);
        Due.due("BAD and NO", x.shape(2, 24, 3), Due.BAD);
        Due.due("BAD and NO", x.shape(2, 25, 0), Due.BAD);
        Due.due("BAD and NO", x.times(2, 2, 24, 25), Due.LONG_BAD);
        Due.due("BAD and NO", x.times(2, 4, 24, 0), Due.LONG_BAD);
        Due.due("BAD and NO", x.undoes(2, 4, 24), Due.BAD);
        Due.due("BAD and NO", x.back(2, 24, 25), Due.LONG_BAD);
        // POLYNOMIAL 0 can't be TURNED or SUMMED.
        Due.due("BAD and NO", x.turn(0, 4), Due.BAD);
        Due.due("NO", x.turn(0, 0), Due.NO);
        Due.due("NO twice over", x.sumUp(0), Due.NO);
        Due.due("BAD and NONE", x.parting(3, 9, 0), Due.BAD);
        Due.due("BAD and NONE", x.parting(9, 1, 1), Due.BAD);
        Due.due("BAD and NONE", x.orders(4, 0, 29, 0), Due.BAD);
        Due.due("BAD and NONE", x.orders(4, 5, 28, 0), Due.BAD);
        Due.due("BAD and NONE", x.orders(9, 0, 28, 0), Due.BAD);
        Due.due("BAD and NONE", x.told(4, 1), Due.BAD);
        Due.due("BAD and NONE", x.turn(3, 4), Due.BAD);
        Due.due("BAD and NONE", x.root(4, 41), -1001);
    }

    private static void noAheadOfNone() {
        Due.sentence("Of several the first; nothing changes then.");
        // Row 18 of a9,0,0; has neither BREAK nor BOW, and one number that is TOO GREAT.
        CountTriangles x = Due.withLaw("a9,0,0;");
        Due.due("NO and NONE", x.shape(0, 18, 1), Due.NO);
        Due.due("NO and NONE", x.shape(0, 18, 2), Due.NO);
        Due.due("NO and NONE", x.shape(0, 9, 2), Due.NO);
        Due.due("NONE", x.shape(0, 9, 1), Due.NONE);
    }

    /** A full TEXT with a FAULT, LAWS and POLYNOMIALS of all kinds. */
    private static CountTriangles busy() {
        CountTriangles x = Due.withLaw("a1,0,0;b1,0,0;");
        Due.lay(x, 1, "a1,0,0;b0,0,1;s-2;");
        Due.lay(x, 2, "a9,9,9;b9,9,9;s9;s9;");
        Due.polynomial(x, 0, 3, 1, 2, 3, 4, 5, 6, 7, 8, 9);
        Due.polynomial(x, 1, 1, -1000000, 2, 500001);
        Due.polynomial(x, 2, 2, 0, 0, 0, 0, 0, 0, 0, 0, 1000000);
        Due.text(x, "s3;".repeat(39) + "s3,");
        return x;
    }

    /** All that can be seen of an object, THE TEXT as far as its ITEMS tell it. */
    private static List<Long> seen(CountTriangles x) {
        List<Long> all = new ArrayList<>();
        for (int what = 0; what <= 2; what++) {
            all.add((long) x.count(what));
        }
        all.add((long) x.fault());
        for (int i = 0; i <= 3; i++) {
            for (int n = 0; n <= 4; n++) {
                for (int k = 0; k <= n; k++) {
                    all.add(x.number(i, n, k));
                }
            }
            all.add(x.number(i, 24, 0));
            all.add(x.number(i, 24, 12));
            all.add((long) x.rest(i, 60, 30, 9973));
            all.add((long) x.told(i, 0));
            for (int k = 0; k <= 8; k++) {
                all.add(x.coefficient(i, k));
            }
        }
        all.add((long) x.lay(3));
        all.add(x.number(3, 0, 0));
        all.add((long) x.count(1));
        return all;
    }

    private static void unchanged(String what, CountTriangles x) {
        Due.due("nothing changed: " + what, seen(x).equals(seen(busy())));
    }

    private static void badChangesNothing() {
        Due.sentence("nothing changes then.");
        for (Asked asked : allCalls()) {
            CountTriangles x = busy();
            for (int which = 0; which < asked.good().length; which++) {
                for (long wrong : beside(asked, which)) {
                    long[] v = asked.good().clone();
                    v[which] = wrong;
                    Due.due(asked.name() + " with " + wrong, asked.call().of(x, v), asked.bad());
                }
            }
            unchanged(asked.name(), x);
        }
    }

    private static void noAndFullChangeNothing() {
        Due.sentence("NO: not as things stand: -2, less 10 to the 18 and 2. NONE: there is none: -4,"
                + " less 10 to the 18 and 4. FULL: -3. Of several the first; nothing changes then.");
        CountTriangles x = busy();
        for (int n = 1; n <= 8; n++) {
            Due.due("write " + n, x.write(n, 0x3b3b3b3b3b3b3b3bL), Due.FULL);
        }
        unchanged("write", x);
        x = busy();
        for (int l = 0; l <= 3; l++) {
            Due.due("lay " + l, x.lay(l), Due.NO);
        }
        unchanged("lay", x);
        x = busy();
        for (int base = 0; base <= 2; base++) {
            Due.due("turn", x.turn(0, base), Due.NO);
        }
        Due.due("turn", x.turn(1, 3), Due.NO);
        for (int base : new int[] {0, 1, 3}) {
            Due.due("turn", x.turn(2, base), Due.NO);
        }
        unchanged("turn", x);
        x = busy();
        for (int p = 0; p <= 2; p++) {
            Due.due("sumUp", x.sumUp(p), Due.NO);
        }
        unchanged("sumUp", x);
        x = busy();
        x.number(2, 24, 12);
        x.sum(2, 24, 3);
        x.shape(2, 24, 2);
        x.times(2, 2, 24, 0);
        x.undoes(2, 2, 24);
        x.back(2, 24, 0);
        unchanged("what LAWS are asked", x);
    }

    private static void noneChangesNothing() {
        Due.sentence("NONE: there is none");
        CountTriangles x = busy();
        Due.due("a parting", x.parting(8, 4, 1701), Due.NONE);
        Due.due("an order", x.orders(8, 4, 8, 1), Due.NONE);
        Due.due("a break", x.shape(0, 24, 1), Due.NONE);
        Due.due("a bow", x.shape(0, 24, 2), Due.NONE);
        Due.due("a degree", x.told(3, 1), Due.NONE);
        Due.due("a root", x.root(2, 8), -1004);
        unchanged("what is none", x);
    }

    private static void calls512() {
        Due.sentence("An object is used for at most 512 calls after it has been made; what later calls answer is free.");
        CountTriangles x = new CountTriangles();
        for (int call = 1; call <= 500; call += 5) {
            int length = call / 5 + 1;
            Due.due("call " + call, x.write(1, length % 3 == 1 ? 's' : length % 3 == 2 ? '4' : ';'), length);
            Due.due("call " + (call + 1), x.fault(), length % 3 == 0 ? Due.NONE : (length - 1) / 3 * 3);
            Due.due("call " + (call + 2), x.orders(8, 4, length % 8 + 1, -1) > 0);
            Due.due("call " + (call + 3), x.set(1, 8, length), length - 1);
            Due.due("call " + (call + 4), x.parting(8, 4, 1700), 0x01233333);
        }
        for (int call = 501; call <= 508; call++) {
            Due.due("call " + call, x.count(0), 100);
        }
        Due.due("call 509", x.lay(0), Due.NO);
        Due.due("call 510", x.wipe(), 100);
        Due.due("call 511", x.lay(0), 0);
        Due.due("call 512", x.coefficient(1, 8), 100);
    }
}
