/** Promises 1 to 12, told one by one. */
public final class LawsTest {
    private static final String CHOICES = "a1,0,0;b1,0,0;";
    private static final String SIGNED_CHOICES = "a1,0,0;b-1,0,0;";
    private static final String PARTS = "a1,0,0;b0,0,1;";
    private static final String RINGS = "a1,0,0;b-1,1,0;";
    private static final String SIGNED_RINGS = "a1,0,0;b1,-1,0;";
    private static final int LEAST = Integer.MIN_VALUE;
    private static final int MOST = Integer.MAX_VALUE;

    public static void main(String[] args) {
        newObject();
        write();
        wipe();
        fault();
        lay();
        number();
        tooGreat();
        sum();
        shape();
        rest();
        times();
        undoes();
        back();
        Due.end();
    }

    private static void newObject() {
        Due.promise(1, "A new object", "`CountTriangles()`: LAWS without ITEMS, POLYNOMIALS of 0.");
        CountTriangles x = new CountTriangles();
        for (int l = 0; l < 4; l++) {
            Due.due("1: top", x.number(l, 0, 0), 1);
            Due.due("1: below the top", x.number(l, 1, 0), 0);
            Due.due("1: last", x.number(l, 24, 24), 0);
            Due.due("1: polynomial", x.told(l, 1), Due.NONE);
            Due.due("1: base", x.told(l, 0), 0);
            Due.due("1: value", x.value(l, 20, 0), 0);
        }
        for (int what = 0; what < 3; what++) {
            Due.due("1: count", x.count(what), 0);
        }
        Due.due("1: fault", x.fault(), Due.NONE);
        CountTriangles other = new CountTriangles();
        Due.lay(x, 0, CHOICES);
        Due.due("1: objects share nothing", other.number(0, 2, 1), 0);
        Due.due("1: objects share no text", other.count(0), 0);
    }

    private static void write() {
        Due.promise(2, "write",
                "`int write(int n, long v)`: n bytes (1 to 8) of v, the highest first, come behind"
                        + " THE TEXT: how long it is. BAD; FULL.");
        CountTriangles x = new CountTriangles();
        for (int n : new int[] {0, 9, -1, LEAST, MOST}) {
            Due.due("2: write " + n, x.write(n, 0x61), Due.BAD);
        }
        Due.due("2: none came", x.count(0), 0);
        Due.due("2: two low bytes, the higher first", x.write(2, 0x7878787878787335L), 2);
        Due.due("2: one more", x.write(1, ';'), 3);
        Due.due("2: s5;", x.lay(0), 1);
        Due.due("2: s5;", x.number(0, 0, 0), 5);
        x.wipe();
        for (int i = 1; i <= 14; i++) {
            Due.due("2: eight more", x.write(8, 0x73313b73313b7331L), 8 * i);
        }
        Due.due("2: 119", x.write(7, 0), 119);
        Due.due("2: two have no room", x.write(2, 0), Due.FULL);
        Due.due("2: nothing came", x.count(0), 119);
        Due.due("2: BAD ahead of FULL", x.write(9, 0), Due.BAD);
        Due.due("2: the last one", x.write(1, 0), 120);
        Due.due("2: one has no room", x.write(1, 0), Due.FULL);
        Due.due("2: eight have no room", x.write(8, -1), Due.FULL);
        Due.due("2: nothing came", x.count(0), 120);
        Due.due("2: it is empty again", x.wipe(), 120);
        Due.due("2: all eight, the sign too", x.write(8, -1), 8);
        Due.due("2: bytes above 127 are no sign of an item", x.fault(), 0);
    }

    private static void wipe() {
        Due.promise(3, "wipe", "`int wipe()`: THE TEXT is empty: how long it was.");
        CountTriangles x = new CountTriangles();
        Due.due("3: empty", x.wipe(), 0);
        Due.append(x, "s1;s");
        Due.due("3: how long it was", x.wipe(), 4);
        Due.due("3: now empty", x.count(0), 0);
        Due.due("3: without fault", x.fault(), Due.NONE);
        Due.lay(x, 1, CHOICES);
        x.wipe();
        Due.due("3: laws stay", x.number(1, 4, 2), 6);
    }

    private static void faultOf(String signs, int want) {
        CountTriangles x = new CountTriangles();
        Due.append(x, signs);
        Due.due("4: fault of '" + signs + "'", x.fault(), want);
        Due.due("5: lay of '" + signs + "'", (x.lay(2) == Due.NO) == (want != Due.NONE));
    }

    private static void fault() {
        Due.promise(4, "fault", "`int fault()`: FAULT. NONE.");
        String[] good = {"", "s0;", "s-9;", "a0,0,0;", "b-1,-2,-3;", "s1;s2;s3;", "a9,-9,9;b0,1,2;s7;a1,1,1;"};
        for (String signs : good) {
            faultOf(signs, Due.NONE);
        }
        String[] bad = {
            ";", "a", "a;", "a1;", "a1,;", "a1,2;", "a1,2,;", "a1,2,3", "a1,2,3,", "a1,2,3,4;", "a,1,2;",
            "a1,,2;", "a10,0,0;", "a-0,0,0;", "a0,-0,0;", "a0,0,-0;", "a--1,0,0;", "a1-,0,0;", "a+1,0,0;",
            "a1.0,0;", "a1,0,0:", "s", "s;", "s-;", "s1", "s1,", "s1,2;", "s-0;", "s00;", "s10;", "s:;",
            "s/;", "c1;", "A1,0,0;", "S1;", " s1;", "s 1;", "s1 ;", "1;", "-1;", "b1,0", "b", "b0,0,0", "\0",
            "\u00e11,0,0;", "s\u00b1;", "\n",
        };
        for (String signs : bad) {
            faultOf(signs, 0);
            faultOf("s1;" + signs, 3);
            faultOf("a1,0,0;b-1,1,0;" + signs + "s1;", 15);
        }
        faultOf("s1;x;s-0;", 3);
        faultOf("s1;;s2;", 3);
        faultOf("s1;s2;\n", 6);
        faultOf("s1;".repeat(40), Due.NONE);
        faultOf("s1;".repeat(39) + "s1,", 117);
        faultOf("s1;".repeat(39) + "s-1", 117);
        CountTriangles x = new CountTriangles();
        Due.append(x, "s1;s");
        Due.due("4: unfinished", x.fault(), 3);
        Due.append(x, "5;");
        Due.due("4: finished", x.fault(), Due.NONE);
    }

    private static void lay() {
        Due.promise(5, "lay", "`int lay(int l)`: LAID as LAW l: how many ITEMS. BAD; NO: a FAULT.");
        CountTriangles x = Due.withLaw(CHOICES);
        for (int l : new int[] {-1, 4, LEAST, MOST}) {
            Due.due("5: lay " + l, x.lay(l), Due.BAD);
        }
        Due.due("5: the text stays", x.count(0), 14);
        Due.due("5: as another", x.lay(3), 2);
        Due.due("5: both", x.count(1), 4);
        Due.due("5: law 3", x.number(3, 4, 2), 6);
        Due.append(x, "c");
        Due.due("5: a fault", x.lay(3), Due.NO);
        Due.due("5: BAD ahead of NO", x.lay(4), Due.BAD);
        Due.due("5: nothing changed", x.number(3, 4, 2), 6);
        Due.due("5: nothing changed", x.count(1), 4);
        Due.text(x, "s5;");
        Due.due("5: anew", x.lay(3), 1);
        Due.due("5: without a and b now", x.number(3, 1, 1), 0);
        Due.due("5: its top", x.number(3, 0, 0), 5);
        Due.text(x, "");
        Due.due("5: without items", x.lay(3), 0);
        Due.due("5: the top is 1 again", x.number(3, 0, 0), 1);
        Due.due("5: law 0 stays", x.count(1), 2);
        Due.text(x, "a1,0,0;a2,0,0;s3;b1,0,0;b0,0,0;s4;");
        Due.due("5: all items count", x.lay(2), 6);
        Due.due("5: of several the last", x.number(2, 2, 2), 16);
        Due.due("5: of several the last", x.number(2, 2, 1), 0);
        Due.text(x, "s1;".repeat(40));
        Due.due("5: forty", x.lay(1), 40);
    }

    private static void number() {
        Due.promise(6, "number", "`long number(int l, int n, int k)`: T(n, k) of LAW l. NO: TOO GREAT; BAD.");
        CountTriangles x = Due.withLaw(CHOICES);
        int[][] bad = {
            {-1, 0, 0}, {4, 0, 0}, {0, -1, 0}, {0, 25, 0}, {0, 3, -1}, {0, 3, 4}, {0, 0, 1},
            {LEAST, 0, 0}, {MOST, 0, 0}, {0, LEAST, 0}, {0, MOST, 0}, {0, 3, LEAST}, {0, 3, MOST},
        };
        for (int[] call : bad) {
            Due.due("6: BAD", x.number(call[0], call[1], call[2]), Due.LONG_BAD);
        }
        Due.due("6: choices", x.number(0, 24, 12), 2704156);
        Due.due("6: first", x.number(0, 24, 0), 1);
        Due.due("6: last", x.number(0, 24, 24), 1);
        // By hand: T(1, 0) = b(1, 0) 2 = 12; T(1, 1) = a(1, 1) 2 = 12; T(2, 1) = a(2, 1) 12 + b(2, 1) 12.
        Due.lay(x, 1, "a1,2,3;b4,2,-1;s2;");
        Due.due("6: b with n", x.number(1, 1, 0), 12);
        Due.due("6: a with n and k", x.number(1, 1, 1), 12);
        Due.due("6: both", x.number(1, 2, 1), 8 * 12 + 7 * 12);
        Due.due("6: a alone", x.number(1, 2, 2), 11 * 12);
        Due.due("6: b alone", x.number(1, 2, 0), 8 * 12);
        Due.lay(x, 2, "a-1,0,0;b0,0,-2;s-3;");
        Due.due("6: less than 0", x.number(2, 1, 1), 3);
        Due.due("6: less than 0", x.number(2, 2, 1), -6);
        Due.lay(x, 3, "a1,0,0;s0;");
        Due.due("6: top 0", x.number(3, 24, 24), 0);
    }

    private static void tooGreat() {
        CountTriangles x = Due.withLaw("a9,0,0;");
        Due.due("6: 9 to the 17", x.number(0, 17, 17), 16677181699666569L);
        Due.due("6: 9 to the 18 is too great", x.number(0, 18, 18), Due.LONG_NO);
        Due.due("6: so is what it comes in", x.number(0, 24, 24), Due.LONG_NO);
        Due.due("6: 0 beside it", x.number(0, 24, 23), 0);
        Due.lay(x, 0, "a-9,0,0;");
        Due.due("6: less 9 to the 17", x.number(0, 17, 17), -16677181699666569L);
        Due.due("6: also with signs", x.number(0, 18, 18), Due.LONG_NO);
        Due.due("6: also with signs", x.number(0, 19, 19), Due.LONG_NO);
        // b(n, n - 1) is 0, so the last numbers never come in those beside them.
        Due.lay(x, 1, "a9,0,0;b9,-9,9;");
        Due.due("6: too great", x.number(1, 18, 18), Due.LONG_NO);
        Due.due("6: too great, 0 times", x.number(1, 19, 18), 0);
        Due.lay(x, 1, "b9,0,0;");
        Due.due("6: too great above to the left", x.number(1, 18, 0), Due.LONG_NO);
        Due.due("6: it comes 0 times", x.number(1, 19, 1), 0);
        // T(19, 2) is 10 to the 17 and -47265625000000000.
        Due.lay(x, 2, "a-8,8,-8;b5,0,-5;s8;");
        Due.due("6: a part of just 10 to the 17", x.number(2, 19, 2), 52734375000000000L);
        Due.lay(x, 2, "a-8,8,-8;b-5,0,5;s8;");
        Due.due("6: a part of just less 10 to the 17", x.number(2, 19, 2), -52734375000000000L);
        // T(13, 2) is -114007102213054050 and 66798484658205300.
        Due.lay(x, 3, "a7,-5,6;b-7,4,1;s7;");
        Due.due("6: the sum is not beyond, a part is", x.number(3, 13, 2), Due.LONG_NO);
        // T(14, 10) is -136273706767033920 and 133348864179365568.
        Due.lay(x, 3, "a9,-6,6;b9,-9,5;s8;");
        Due.due("6: both parts beyond", x.number(3, 14, 10), Due.LONG_NO);
        // T(n, 1) is 10 to the n less 9 to the n.
        Due.lay(x, 0, "a1,0,0;b9,0,1;");
        Due.due("6: 10^17 - 9^17", x.number(0, 17, 1), 83322818300333431L);
        Due.due("6: 10^18 - 9^18", x.number(0, 18, 1), Due.LONG_NO);
        // Factors to 441 times numbers to 10 to the 17 are beyond a long: no wrap may hide them.
        Due.lay(x, 0, "a9,9,9;b9,9,9;s9;");
        for (int k = 0; k <= 24; k++) {
            Due.due("6: far beyond", x.number(0, 24, k), Due.LONG_NO);
        }
    }

    private static void sum() {
        Due.promise(7, "sum",
                "`long sum(int l, int n, int what)`: Of row n: ALL (what = 0), SIGNS (1), SLANT (2),"
                        + " SQUARES (3). NO; BAD.");
        CountTriangles x = Due.withLaw(CHOICES);
        int[][] bad = {
            {-1, 3, 0}, {4, 3, 0}, {0, -1, 0}, {0, 25, 0}, {0, 3, -1}, {0, 3, 4},
            {LEAST, 3, 0}, {0, MOST, 0}, {0, LEAST, 2}, {0, 3, MOST}, {0, 3, LEAST},
        };
        for (int[] call : bad) {
            Due.due("7: BAD", x.sum(call[0], call[1], call[2]), Due.LONG_BAD);
        }
        Due.due("7: all", x.sum(0, 24, 0), 1 << 24);
        Due.due("7: all of row 0", x.sum(0, 0, 0), 1);
        Due.due("7: signs", x.sum(0, 24, 1), 0);
        Due.due("7: signs of row 0", x.sum(0, 0, 1), 1);
        long[] slants = {1, 1, 2, 3, 5, 8, 13, 21};
        for (int n = 0; n < slants.length; n++) {
            Due.due("7: slant " + n, x.sum(0, n, 2), slants[n]);
        }
        Due.due("7: slant 24", x.sum(0, 24, 2), 75025);
        Due.due("7: squares", x.sum(0, 5, 3), 252);
        // Row 3 of the signed ones is -1, 3, -3, 1.
        Due.lay(x, 1, SIGNED_CHOICES);
        Due.due("7: all of it", x.sum(1, 3, 0), 0);
        Due.due("7: its signs", x.sum(1, 3, 1), -8);
        Due.due("7: its squares", x.sum(1, 3, 3), 20);
        sumNo(x);
    }

    private static void sumNo(CountTriangles x) {
        // Row 18 ends with 9 to the 18, the others are 0; slants reach it from row 36 on.
        Due.lay(x, 2, "a9,0,0;");
        Due.due("7: one too great", x.sum(2, 18, 0), Due.LONG_NO);
        Due.due("7: one too great", x.sum(2, 18, 1), Due.LONG_NO);
        Due.due("7: not in the slant", x.sum(2, 18, 2), 387420489);
        Due.due("7: one too great", x.sum(2, 18, 3), Due.LONG_NO);
        Due.due("7: 9^17", x.sum(2, 17, 0), 16677181699666569L);
        Due.due("7: less 9^17", x.sum(2, 17, 1), -16677181699666569L);
        Due.due("7: 9^8 squared", x.sum(2, 8, 3), 43046721L * 43046721L);
        Due.due("7: 9^9 is above 10^8", x.sum(2, 9, 3), Due.LONG_NO);
        Due.lay(x, 2, "a-9,0,0;");
        Due.due("7: less 9^9 is below less 10^8", x.sum(2, 9, 3), Due.LONG_NO);
        Due.lay(x, 2, "b9,0,0;");
        Due.due("7: a slant begins at place 0", x.sum(2, 18, 2), Due.LONG_NO);
        // Sums may be above 10 to the 17 if no number is.
        Due.lay(x, 3, "a9,0,0;b9,0,0;");
        Due.due("7: 18^13", x.sum(3, 13, 0), 20822964865671168L);
        Due.due("7: 18^14 is above 10^17, its numbers are not", x.sum(3, 14, 0), 374813367582081024L);
        // The greatest number of row 10 is 10 to the 8, the least one of row 9 of the other less that.
        Due.lay(x, 3, "a2,2,-4;b5,0,-5;s2;");
        Due.due("7: just 10 to the 8", x.sum(3, 10, 3), 20811557382812500L);
        Due.lay(x, 3, "a-6,-2,4;b-5,0,5;s8;");
        Due.due("7: just less 10 to the 8", x.sum(3, 9, 3), 21600605025000000L);
    }

    private static void shape() {
        Due.promise(8, "shape",
                "`int shape(int l, int n, int what)`: Of row n: GREATEST (what = 0), BREAK (1), BOWED"
                        + " (2). NONE; NO; BAD.");
        CountTriangles x = Due.withLaw(CHOICES);
        int[][] bad = {
            {-1, 3, 0}, {4, 3, 0}, {0, -1, 0}, {0, 25, 0}, {0, 3, -1}, {0, 3, 3},
            {MOST, 3, 0}, {0, LEAST, 0}, {0, MOST, 0}, {0, 3, LEAST}, {0, 3, MOST},
        };
        for (int[] call : bad) {
            Due.due("8: BAD", x.shape(call[0], call[1], call[2]), Due.BAD);
        }
        Due.due("8: the first of two greatest", x.shape(0, 7, 0), 3);
        Due.due("8: greatest of row 0", x.shape(0, 0, 0), 0);
        Due.due("8: it rises and falls once", x.shape(0, 24, 1), Due.NONE);
        Due.due("8: no bow", x.shape(0, 24, 2), Due.NONE);
        Due.due("8: row 0 has no break", x.shape(0, 0, 1), Due.NONE);
        Due.due("8: row 1 has no bow", x.shape(0, 1, 2), Due.NONE);
        // Rows 2 and 3 with signs: 1, -2, 1 and -1, 3, -3, 1.
        Due.lay(x, 1, SIGNED_CHOICES);
        Due.due("8: the first of 1 and 1", x.shape(1, 2, 0), 0);
        Due.due("8: it rises behind -2", x.shape(1, 2, 1), 1);
        Due.due("8: it rises behind -3, having fallen", x.shape(1, 3, 1), 2);
        Due.due("8: squares are enough", x.shape(1, 3, 2), Due.NONE);
        // Rows 3, 0; 9, 9, 0; 27, 81, 54, 0.
        Due.lay(x, 2, "a-3,3,0;b3,0,0;");
        Due.due("8: greatest", x.shape(2, 3, 0), 1);
        Due.due("8: no bow: 81 81, 54 54", x.shape(2, 3, 2), Due.NONE);
        // Rows 1, 1; 1, 2, 2; 1, 3, 6, 6.
        Due.lay(x, 3, "a0,0,1;b1,0,0;");
        Due.due("8: the first of 6 and 6", x.shape(3, 3, 0), 2);
        Due.due("8: no fall", x.shape(3, 3, 1), Due.NONE);
        Due.due("8: 3 3 is more than 1 6", x.shape(3, 3, 2), Due.NONE);
        shapeBowed(x);
        shapeNo(x);
    }

    private static void shapeBowed(CountTriangles x) {
        // Rows 1, 1 and 1, 1, 4.
        Due.lay(x, 0, "a-2,0,3;b1,0,-1;");
        Due.due("8: 1 is less than 4", x.shape(0, 2, 2), 1);
        Due.due("8: greatest is the last", x.shape(0, 2, 0), 2);
        Due.due("8: level, then a rise, no fall", x.shape(0, 2, 1), Due.NONE);
        // Row n of a alone: 0, .., 0, 1.
        Due.lay(x, 0, "a1,0,0;");
        Due.due("8: 0 is not less than 0", x.shape(0, 5, 2), Due.NONE);
        Due.due("8: greatest", x.shape(0, 5, 0), 5);
        // Rows 1, 1 and 1, 0, 2.
        Due.lay(x, 0, "a0,-1,2;b1,0,-1;");
        Due.due("8: 0 is less than 2", x.shape(0, 2, 2), 1);
        Due.due("8: it fell, then rises behind 0", x.shape(0, 2, 1), 1);
        Due.due("8: greatest", x.shape(0, 2, 0), 2);
        // 10 to the 8 may still be squared.
        Due.lay(x, 0, "a2,2,-4;b5,0,-5;s2;");
        Due.due("8: just 10 to the 8", x.shape(0, 10, 2), Due.NONE);
    }

    private static void shapeNo(CountTriangles x) {
        Due.lay(x, 1, "a9,0,0;");
        Due.due("8: 9^17 is not too great", x.shape(1, 17, 0), 17);
        Due.due("8: 9^18 is", x.shape(1, 18, 0), Due.NO);
        Due.due("8: 9^18 is", x.shape(1, 18, 1), Due.NO);
        Due.due("8: 9^18 is", x.shape(1, 18, 2), Due.NO);
        Due.due("8: a break may be asked above 10^8", x.shape(1, 9, 1), Due.NONE);
        Due.due("8: a bow may not", x.shape(1, 9, 2), Due.NO);
        Due.due("8: 9^8", x.shape(1, 8, 2), Due.NONE);
        Due.lay(x, 1, "a-9,0,0;");
        Due.due("8: nor below less 10^8", x.shape(1, 9, 2), Due.NO);
        Due.due("8: the first 0 is greatest", x.shape(1, 9, 0), 0);
        // All of a row less than 0.
        Due.lay(x, 1, "a1,0,0;b1,0,0;s-1;");
        Due.due("8: the greatest of -1, -3, -3, -1", x.shape(1, 3, 0), 0);
        Due.due("8: it falls, then rises behind -3", x.shape(1, 3, 1), 2);
    }

    private static void rest() {
        Due.promise(9, "rest", "`int rest(int l, int n, int k, int m)`: RESTS. BAD.");
        CountTriangles x = Due.withLaw(CHOICES);
        int[][] bad = {
            {-1, 3, 0, 5}, {4, 3, 0, 5}, {0, -1, 0, 5}, {0, 61, 0, 5}, {0, 3, -1, 5}, {0, 3, 4, 5},
            {0, 3, 0, 1}, {0, 3, 0, 0}, {0, 3, 0, -5}, {0, 3, 0, 10001}, {MOST, 3, 0, 5}, {0, MOST, 0, 5},
            {0, LEAST, 0, 5}, {0, 3, MOST, 5}, {0, 3, LEAST, 5}, {0, 3, 0, MOST}, {0, 3, 0, LEAST},
        };
        for (int[] call : bad) {
            Due.due("9: BAD", x.rest(call[0], call[1], call[2], call[3]), Due.BAD);
        }
        Due.due("9: 2704156 by 10000", x.rest(0, 24, 12, 10000), 4156);
        // 118264581564861424 choices of 30 of 60.
        Due.due("9: 30 of 60 by 10000", x.rest(0, 60, 30, 10000), 1424);
        Due.due("9: by 2", x.rest(0, 60, 30, 2), 0);
        Due.due("9: first", x.rest(0, 60, 0, 2), 1);
        Due.due("9: last", x.rest(0, 60, 60, 7), 1);
        Due.due("9: row 0", x.rest(0, 0, 0, 2), 1);
        Due.lay(x, 1, "a-1,0,0;b-2,0,0;s-3;");
        Due.due("9: -3 by 7", x.rest(1, 0, 0, 7), 4);
        Due.due("9: 6 by 7", x.rest(1, 1, 0, 7), 6);
        Due.due("9: -12 by 7", x.rest(1, 2, 0, 7), 2);
        Due.lay(x, 2, "a9,0,0;");
        Due.due("9: nothing is too great: 9^60", x.rest(2, 60, 60, 10000), 6401);
        Due.lay(x, 3, "a9,9,9;b9,9,9;s9;");
        Due.due("9: 9 27 by 1000", x.rest(3, 1, 1, 1000), 243);
        Due.lay(x, 3, "s-9;");
        Due.due("9: -9 by 3", x.rest(3, 0, 0, 3), 0);
        Due.due("9: without a and b", x.rest(3, 60, 7, 3), 0);
    }

    private static void times() {
        Due.promise(10, "times", "`long times(int a, int b, int n, int k)`: A TIMES B at (n, k). NO; BAD.");
        CountTriangles x = Due.withLaw(CHOICES);
        Due.lay(x, 1, PARTS);
        int[][] bad = {
            {-1, 0, 3, 0}, {4, 0, 3, 0}, {0, -1, 3, 0}, {0, 4, 3, 0}, {0, 0, -1, 0}, {0, 0, 25, 0}, {0, 0, 3, -1},
            {0, 0, 3, 4}, {MOST, 0, 3, 0}, {0, LEAST, 3, 0}, {0, 0, MOST, 0}, {0, 0, 3, MOST}, {0, 0, LEAST, LEAST},
        };
        for (int[] call : bad) {
            Due.due("10: BAD", x.times(call[0], call[1], call[2], call[3]), Due.LONG_BAD);
        }
        // Choices times parts: the parts of one thing more.
        Due.due("10: choices times parts", x.times(0, 1, 4, 2), 25);
        // Parts times choices at (3, 1): 1 1 and 3 2 and 1 3.
        Due.due("10: parts times choices", x.times(1, 0, 3, 1), 10);
        Due.due("10: choices twice", x.times(0, 0, 24, 0), 1 << 24);
        Due.due("10: last place", x.times(0, 1, 24, 24), 1);
        Due.due("10: row 0", x.times(0, 1, 0, 0), 1);
        // Only A(17, 17) = 2^17 and B(17, 0) = 5^17 count.
        Due.lay(x, 2, "a2,0,0;");
        Due.lay(x, 3, "b5,0,0;");
        Due.due("10: just 10 to the 17", x.times(2, 3, 17, 0), 100000000000000000L);
        Due.due("10: 10 to the 18", x.times(2, 3, 18, 0), Due.LONG_NO);
        Due.due("10: the other way", x.times(3, 2, 17, 0), 762939453125L);
        Due.lay(x, 3, "b5,0,0;s-1;");
        Due.due("10: just less 10 to the 17", x.times(2, 3, 17, 0), -100000000000000000L);
        // A(18, 18) = 9^18 is too great, and B(18, 0) = 0.
        Due.lay(x, 2, "a9,0,0;");
        Due.due("10: too great, though times 0", x.times(2, 2, 18, 0), Due.LONG_NO);
        Due.due("10: too great, though times 0", x.times(0, 2, 18, 18), Due.LONG_NO);
        Due.due("10: 1 9^17", x.times(0, 2, 17, 17), 16677181699666569L);
        Due.due("10: 18 9^17 is above", x.times(0, 2, 18, 17), Due.LONG_NO);
        // Far beyond a long: 9^17 times 9^17.
        Due.due("10: far beyond", x.times(2, 2, 17, 17), Due.LONG_NO);
    }

    private static void undoes() {
        Due.promise(11, "undoes", "`int undoes(int a, int b, int n)`: UNDOES. NONE; NO: TOO GREAT ahead of it; BAD.");
        CountTriangles x = Due.withLaw(CHOICES);
        Due.lay(x, 1, SIGNED_CHOICES);
        Due.lay(x, 2, PARTS);
        Due.lay(x, 3, SIGNED_RINGS);
        int[][] bad = {
            {-1, 0, 3}, {4, 0, 3}, {0, -1, 3}, {0, 4, 3}, {0, 0, -1}, {0, 0, 25},
            {MOST, 0, 3}, {0, LEAST, 3}, {0, 0, MOST}, {0, 0, LEAST},
        };
        for (int[] call : bad) {
            Due.due("11: BAD", x.undoes(call[0], call[1], call[2]), Due.BAD);
        }
        Due.due("11: signed choices undo choices", x.undoes(1, 0, 24), Due.NONE);
        Due.due("11: and the other way", x.undoes(0, 1, 24), Due.NONE);
        Due.due("11: rings undo parts", x.undoes(3, 2, 18), Due.NONE);
        Due.due("11: a product above 10^17 in row 19", x.undoes(3, 2, 19), Due.NO);
        Due.due("11: parts undo rings", x.undoes(2, 3, 17), Due.NONE);
        Due.due("11: a product above 10^17 in row 18", x.undoes(2, 3, 18), Due.NO);
        Due.due("11: parts themselves", x.undoes(2, 2, 24), 2);
        Due.due("11: not up to row 1", x.undoes(2, 2, 1), Due.NONE);
        Due.due("11: row 0 alone", x.undoes(0, 0, 0), Due.NONE);
        Due.lay(x, 1, "s2;");
        Due.due("11: the top is not 1", x.undoes(1, 0, 24), 0);
        Due.lay(x, 1, "s-1;a-1,0,0;");
        Due.due("11: with signs by turns, twice", x.undoes(1, 1, 24), Due.NONE);
        Due.due("11: -1 times 1", x.undoes(1, 0, 24), 0);
        // Only the last place differs: 1, then 0 where 1 is due.
        Due.lay(x, 1, "");
        Due.due("11: a row of 0", x.undoes(1, 1, 24), 1);
        undoesPlaceByPlace(x);
    }

    private static void undoesPlaceByPlace(CountTriangles x) {
        // Last numbers 9^n: row 1 is not undone, long ahead of what is too great.
        Due.lay(x, 0, "a9,0,0;");
        Due.due("11: a row ahead of the too great", x.undoes(0, 0, 24), 1);
        Due.lay(x, 1, RINGS);
        Due.due("11: rings themselves: 2 at (2, 1)", x.undoes(1, 1, 24), 2);
    }

    private static void back() {
        Due.promise(12, "back", "`long back(int a, int n, int k)`: BACK of A at (n, k). NO; BAD.");
        CountTriangles x = Due.withLaw(CHOICES);
        Due.lay(x, 1, PARTS);
        int[][] bad = {
            {-1, 3, 0}, {4, 3, 0}, {0, -1, 0}, {0, 25, 0}, {0, 3, -1}, {0, 3, 4},
            {MOST, 3, 0}, {0, LEAST, 0}, {0, MOST, 0}, {0, 3, LEAST}, {0, 3, MOST},
        };
        for (int[] call : bad) {
            Due.due("12: BAD", x.back(call[0], call[1], call[2]), Due.LONG_BAD);
        }
        Due.due("12: choices", x.back(0, 24, 12), 2704156);
        Due.due("12: choices", x.back(0, 23, 12), -1352078);
        Due.due("12: last", x.back(0, 24, 24), 1);
        Due.due("12: parts", x.back(1, 7, 1), 720);
        Due.due("12: parts", x.back(1, 8, 1), -5040);
        Due.due("12: row 0", x.back(1, 0, 0), 1);
        Due.lay(x, 2, "a-1,0,0;b1,0,0;s-1;");
        for (int n = 0; n <= 8; n++) {
            for (int k = 0; k <= n; k++) {
                long sum = 0;
                for (int j = k; j <= n; j++) {
                    sum += x.number(2, n, j) * x.back(2, j, k);
                }
                Due.due("12: A times back at " + n + ", " + k, sum, n == k ? 1 : 0);
            }
        }
        backNo(x);
    }

    private static void backNo(CountTriangles x) {
        Due.lay(x, 0, "a2,0,0;b1,0,0;");
        Due.due("12: row 0 ends with 1", x.back(0, 0, 0), 1);
        Due.due("12: row 1 ends with 2", x.back(0, 1, 1), Due.LONG_NO);
        Due.lay(x, 0, "a1,0,0;s2;");
        Due.due("12: row 0 ends with 2", x.back(0, 0, 0), Due.LONG_NO);
        Due.lay(x, 0, "a1,0,0;s0;");
        Due.due("12: row 0 ends with 0", x.back(0, 5, 5), Due.LONG_NO);
        // Rows 1 and 2 end with 1 and 0.
        Due.lay(x, 0, "a2,-1,0;b1,0,0;");
        Due.due("12: row 1 still ends with 1", x.back(0, 1, 1), 1);
        Due.due("12: row 2 ends with 0", x.back(0, 2, 2), Due.LONG_NO);
        // 19! stands at (20, 1) of the rings.
        Due.lay(x, 1, RINGS);
        Due.due("12: A(20, 1) is too great", x.back(1, 20, 1), Due.LONG_NO);
        Due.due("12: A(19, 1) is not", x.back(1, 19, 1), 1);
        Due.due("12: only what comes in it counts", x.back(1, 20, 15) != Due.LONG_NO);
        Due.lay(x, 2, PARTS);
        Due.due("12: less 17!", x.back(2, 18, 1), -355687428096000L);
        Due.due("12: products for 18! are beyond", x.back(2, 19, 1), Due.LONG_NO);
        Due.due("12: all below it, too", x.back(2, 20, 1), Due.LONG_NO);
        // X(n, 0) is 9 to the n with signs by turns.
        Due.lay(x, 3, "a1,0,0;b9,0,0;");
        Due.due("12: less 9^3", x.back(3, 3, 0), -729);
    }
}
