/** THE TEXT, its ITEMS and LAWS (promises 1 to 5): a test for each sentence that names a boundary case. */
public final class TextBoundariesTest {
    public static void main(String[] args) {
        bytesOfText();
        figures();
        minus();
        commas();
        semicolons();
        withoutA();
        withoutB();
        withoutS();
        severalOfALetter();
        placeOfFault();
        lawsAtFirst();
        textCanBeLaid();
        newObject();
        writeBytes();
        wipeEmpty();
        faultNone();
        layFault();
        Due.end();
    }

    private static CountTriangles withText(String signs) {
        CountTriangles x = new CountTriangles();
        Due.append(x, signs);
        return x;
    }

    private static void faultOf(String signs, int want) {
        Due.due("fault of '" + signs + "'", withText(signs).fault(), want);
    }

    /** Just this one of ITEMS is wrong: its first byte is the FAULT, wherever it stands. */
    private static void wrongItem(String item) {
        faultOf(item, 0);
        faultOf("s-1;" + item, 4);
        faultOf("s1;" + item + "s1;", 3);
    }

    private static void rightItem(String item) {
        faultOf(item, Due.NONE);
        faultOf("s-1;" + item, Due.NONE);
        faultOf(item + item, Due.NONE);
    }

    private static void bytesOfText() {
        Due.sentence("A TEXT is bytes (120 at most)");
        CountTriangles x = withText("s1;".repeat(40));
        Due.due("120 bytes", x.count(0), 120);
        Due.due("all of them are a TEXT", x.fault(), Due.NONE);
        Due.due("40 ITEMS", x.lay(0), 40);
        Due.due("121 bytes", x.write(1, ';'), Due.FULL);
        for (int n = 1; n <= 8; n++) {
            x = withText("s1;".repeat(40).substring(0, 120 - n));
            Due.due(n + " bytes to 120", x.write(n, 0), 120);
            x = withText("s1;".repeat(40).substring(0, 121 - n));
            Due.due(n + " bytes to 121", x.write(n, 0), Due.FULL);
            Due.due("none of them came", x.count(0), 121 - n);
        }
    }

    private static void figures() {
        Due.sentence("numbers (one figure, perhaps with - ahead, not of 0)");
        for (char figure = '0'; figure <= '9'; figure++) {
            rightItem("s" + figure + ";");
        }
        for (String none : new String[] {"", "/", ":", "10", "00", "1 ", " 1", "+1", "\u0001", "\u00b1", "a"}) {
            wrongItem("s" + none + ";");
            wrongItem("a" + none + ",1,1;");
            wrongItem("b1," + none + ",1;");
            wrongItem("a1,1," + none + ";");
        }
    }

    private static void minus() {
        Due.sentence("perhaps with - ahead, not of 0");
        for (char figure = '1'; figure <= '9'; figure++) {
            rightItem("s-" + figure + ";");
            rightItem("b-" + figure + ",-" + figure + ",-" + figure + ";");
        }
        for (String none : new String[] {"-", "--1", "-0", "-/", "-:", "1-", "-10"}) {
            wrongItem("s" + none + ";");
            wrongItem("b" + none + ",1,1;");
            wrongItem("a1," + none + ",1;");
            wrongItem("b1,1," + none + ";");
        }
        rightItem("s0;");
        rightItem("a0,0,0;");
    }

    private static void commas() {
        Due.sentence("numbers (one figure, perhaps with - ahead, not of 0) parted by ,");
        for (String letter : new String[] {"a", "b"}) {
            rightItem(letter + "1,2,3;");
            for (String numbers : new String[] {"1", "1,2", "1,2,3,4", "123", "1,23", "12,3", "1;2;3", "1.2.3",
                    ",1,2,3", "1,,2,3", "1,2,3,", "1,2,,3"}) {
                wrongItem(letter + numbers + ";");
            }
        }
        wrongItem("s1,2;");
        wrongItem("s1,2,3;");
        wrongItem("s,1;");
        wrongItem("s1,;");
    }

    private static void semicolons() {
        Due.sentence("and a ; (behind the last one, too)");
        faultOf("s1", 0);
        faultOf("s1;s2", 3);
        faultOf("s1;s2;", Due.NONE);
        faultOf("a1,2,3", 0);
        faultOf("a1,2,3b1,2,3;", 0);
        faultOf("s1;a1,2,3", 3);
        faultOf("s1;;", 3);
        faultOf(";", 0);
        faultOf("s1:", 0);
        faultOf("s1;".repeat(39) + "s1,", 117);
        faultOf("s1;".repeat(39) + "s-1", 117);
        faultOf("s1;".repeat(39) + "s1;", Due.NONE);
    }

    private static void withoutA() {
        Due.sentence("aX,Y,Z what is above to the left comes X and Y n and Z k times (0, 0, 0 without)");
        CountTriangles x = Due.withLaw("b2,0,0;s3;");
        Due.due("what is above alone", x.number(0, 2, 0), 12);
        Due.due("nothing from the left", x.number(0, 2, 1), 0);
        Due.due("nothing from the left", x.number(0, 24, 24), 0);
        Due.lay(x, 0, "a1,0,0;b2,0,0;");
        Due.lay(x, 0, "b2,0,0;s3;");
        Due.due("nothing of the LAW that was there", x.number(0, 2, 1), 0);
        Due.lay(x, 1, "a1,2,3;s2;");
        Due.due("1 and 2 and 3 times 2", x.number(1, 1, 1), 12);
        Due.due("1 and 4 and 6 times 12", x.number(1, 2, 2), 132);
    }

    private static void withoutB() {
        Due.sentence("bX,Y,Z what is above comes X and Y n and Z k times (0, 0, 0 without)");
        CountTriangles x = Due.withLaw("a2,0,0;s3;");
        Due.due("what is above to the left alone", x.number(0, 2, 2), 12);
        Due.due("nothing from above", x.number(0, 2, 1), 0);
        Due.due("nothing from above", x.number(0, 24, 0), 0);
        Due.lay(x, 0, "a1,0,0;b2,0,0;");
        Due.lay(x, 0, "a2,0,0;s3;");
        Due.due("nothing of the LAW that was there", x.number(0, 2, 1), 0);
        Due.lay(x, 1, "a1,0,0;b1,2,3;s2;");
        Due.due("1 and 2 times 2", x.number(1, 1, 0), 6);
        Due.due("6 and 1 and 4 and 3 times 2", x.number(1, 2, 1), 22);
    }

    private static void withoutS() {
        Due.sentence("sV the top number is V (1 without)");
        CountTriangles x = Due.withLaw("a1,0,0;b1,0,0;");
        Due.due("without", x.number(0, 0, 0), 1);
        for (int v = -9; v <= 9; v++) {
            Due.lay(x, 0, "b1,0,0;s" + v + ";");
            Due.due("s" + v, x.number(0, 0, 0), v);
            Due.due("s" + v, x.number(0, 24, 0), v);
        }
        Due.lay(x, 0, "b1,0,0;");
        Due.due("without, where there was one", x.number(0, 24, 0), 1);
    }

    private static void severalOfALetter() {
        Due.sentence("Of several of a letter the last.");
        CountTriangles x = Due.withLaw("a9,9,9;b9,9,9;s9;a1,0,0;b0,0,2;s3;");
        Due.due("s3;", x.number(0, 0, 0), 3);
        Due.due("a1,0,0;", x.number(0, 1, 1), 3);
        Due.due("3 and 2 times 3", x.number(0, 2, 1), 6);
        Due.due("b0,0,2;", x.number(0, 1, 0), 0);
        Due.lay(x, 0, "a2,0,0;a0,0,0;s5;s0;");
        Due.due("the last, if it is of 0, too", x.number(0, 0, 0), 0);
        Due.lay(x, 0, "a2,0,0;a0,0,0;");
        Due.due("the last, if it is of 0, too", x.number(0, 1, 1), 0);
        Due.lay(x, 0, "s4;".repeat(39) + "s7;");
        Due.due("the last of 40", x.number(0, 0, 0), 7);
    }

    private static void placeOfFault() {
        Due.sentence("FAULT: the place of the first byte of the first ITEM that is not so.");
        faultOf("c1;", 0);
        faultOf("s1;c1;", 3);
        faultOf("s1;c1;c2;", 3);
        faultOf("s1;a1,1,-0;s1;", 3);
        faultOf("a1,1,1;b1,1,1;s1;s", 17);
        faultOf("s1;".repeat(39) + "xxx", 117);
        faultOf("a-1,-1,-1;".repeat(11) + "a-1,-1,-1,", 110);
        for (int letter = 0; letter < 256; letter++) {
            boolean told = letter == 'a' || letter == 'b';
            faultOf("s1;" + (char) letter + "1,1,1;", told ? Due.NONE : 3);
            faultOf("s1;" + (char) letter + "1;", letter == 's' ? Due.NONE : 3);
        }
    }

    private static void lawsAtFirst() {
        Due.sentence("LAWS 0 to 3 (at first each without ITEMS)");
        CountTriangles x = new CountTriangles();
        Due.due("no ITEMS", x.count(1), 0);
        for (int l = 0; l <= 3; l++) {
            Due.due("the top is 1", x.number(l, 0, 0), 1);
            Due.due("without a", x.number(l, 1, 1), 0);
            Due.due("without b", x.number(l, 1, 0), 0);
            Due.due("down to the last row", x.sum(l, 24, 0), 0);
            Due.due("rests, too", x.rest(l, 0, 0, 2), 1);
            Due.due("rests, too", x.rest(l, 60, 60, 2), 0);
            Due.due("one can be LAID", x.lay(l), 0);
        }
        Due.due("there is no LAW 4", x.lay(4), Due.BAD);
        Due.due("there is no LAW -1", x.lay(-1), Due.BAD);
    }

    private static void textCanBeLaid() {
        Due.sentence("a TEXT without FAULT can be LAID as one.");
        CountTriangles x = new CountTriangles();
        Due.due("an empty one", x.lay(3), 0);
        Due.append(x, "s5;");
        Due.due("one ITEM", x.lay(3), 1);
        Due.due("its top", x.number(3, 0, 0), 5);
        Due.due("THE TEXT stays", x.lay(0), 1);
        Due.append(x, "s");
        Due.due("a FAULT", x.lay(1), Due.NO);
        Due.append(x, "7;");
        Due.due("without FAULT again", x.lay(1), 2);
        x.wipe();
        Due.due("empty again", x.lay(3), 0);
        Due.due("without ITEMS again", x.number(3, 0, 0), 1);
        Due.due("1 and 0 and 2 and 0 ITEMS", x.count(1), 3);
    }

    private static void newObject() {
        Due.sentence("`CountTriangles()`: LAWS without ITEMS, POLYNOMIALS of 0.");
        CountTriangles used = Due.withLaw("a1,0,0;b1,0,0;s7;");
        Due.polynomial(used, 0, 2, 1, 2, 3);
        CountTriangles x = new CountTriangles();
        for (int what = 0; what < 3; what++) {
            Due.due("count " + what, x.count(what), 0);
        }
        Due.due("an empty TEXT", x.wipe(), 0);
        Due.due("without FAULT", x.fault(), Due.NONE);
        for (int i = 0; i < 4; i++) {
            Due.due("LAW " + i, x.number(i, 0, 0), 1);
            Due.due("LAW " + i, x.number(i, 24, 12), 0);
            Due.due("POLYNOMIAL " + i, x.told(i, 0), 0);
            Due.due("POLYNOMIAL " + i, x.told(i, 1), Due.NONE);
            Due.due("POLYNOMIAL " + i, x.root(i, -1), 41);
        }
        Due.due("the one in use stays", used.number(0, 2, 1), 14);
    }

    private static void writeBytes() {
        Due.sentence("n bytes (1 to 8) of v, the highest first, come behind THE TEXT: how long it is. BAD; FULL.");
        CountTriangles x = new CountTriangles();
        Due.due("0 bytes", x.write(0, 's'), Due.BAD);
        Due.due("9 bytes", x.write(9, 's'), Due.BAD);
        Due.due("none came", x.count(0), 0);
        Due.due("1 byte", x.write(1, 0x6162636465666773L), 1);
        Due.due("2 bytes, the highest first", x.write(2, 0x616263646566343bL), 3);
        Due.due("they are s4;", x.lay(0), 1);
        Due.due("they are s4;", x.number(0, 0, 0), 4);
        Due.due("8 bytes", x.write(8, 0x61312c302c303b73L), 11);
        Due.due("3 more", x.write(3, 0xff2d353bL), 14);
        Due.due("s4;a1,0,0;s-5;", x.lay(0), 3);
        Due.due("s4;a1,0,0;s-5;", x.number(0, 1, 1), -5);
        Due.due("bytes of 255", x.write(8, -1), 22);
        Due.due("are no ITEM", x.fault(), 14);
        for (int length = 30; length <= 118; length += 8) {
            Due.due("8 more", x.write(8, 0), length);
        }
        Due.due("121", x.write(3, 0), Due.FULL);
        Due.due("126", x.write(8, 0), Due.FULL);
        Due.due("120", x.write(2, 0), 120);
        Due.due("121", x.write(1, 0), Due.FULL);
        Due.due("0 bytes of a full one", x.write(0, 0), Due.BAD);
    }

    private static void wipeEmpty() {
        Due.sentence("THE TEXT is empty: how long it was.");
        CountTriangles x = new CountTriangles();
        Due.due("empty already", x.wipe(), 0);
        Due.append(x, "s1;".repeat(40));
        Due.due("full", x.wipe(), 120);
        Due.due("empty", x.wipe(), 0);
        Due.due("there is room again", x.write(8, 0), 8);
        Due.due("8 bytes", x.wipe(), 8);
        Due.due("nothing is left of them", x.fault(), Due.NONE);
    }

    private static void faultNone() {
        Due.sentence("`int fault()`: FAULT. NONE.");
        faultOf("", Due.NONE);
        faultOf("s1;", Due.NONE);
        faultOf("s1;".repeat(40), Due.NONE);
        faultOf("x", 0);
        CountTriangles x = withText("s1;x");
        Due.due("a FAULT", x.fault(), 3);
        Due.due("it stays", x.fault(), 3);
        x.wipe();
        Due.due("none now", x.fault(), Due.NONE);
    }

    private static void layFault() {
        Due.sentence("LAID as LAW l: how many ITEMS. BAD; NO: a FAULT.");
        CountTriangles x = withText("s2;a1,0,0;s3;");
        for (int l = 0; l <= 3; l++) {
            Due.due("LAW " + l, x.lay(l), 3);
        }
        Due.due("LAW -1", x.lay(-1), Due.BAD);
        Due.due("LAW 4", x.lay(4), Due.BAD);
        Due.append(x, "a");
        for (int l = 0; l <= 3; l++) {
            Due.due("a FAULT", x.lay(l), Due.NO);
            Due.due("LAW " + l + " stays", x.number(l, 5, 5), 3);
        }
        Due.due("BAD comes first", x.lay(4), Due.BAD);
        Due.due("BAD comes first", x.lay(-1), Due.BAD);
        Due.due("all ITEMS stay", x.count(1), 12);
        Due.due("THE TEXT stays", x.wipe(), 14);
    }
}
