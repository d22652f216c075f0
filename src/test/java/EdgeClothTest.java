import java.util.List;

/** The boundary cases of promises 1 to 12: a new object and the cloth. */
public final class EdgeClothTest {
    private static final int MIN = Edges.MIN;
    private static final int MAX = Edges.MAX;
    /** 13 POINTS and the ; behind them. */
    private static final String FIFTY_FIVE = "0:1;1:2;2:3;3:4;4:5;5:6;6:7;7:8;8:9;9:0;10:0;11:0;12:0;";
    private static final String FIFTY = FIFTY_FIVE.substring(0, 50);

    private final Edges edges = new Edges("EdgeClothTest", 1, 12);

    public static void main(String[] args) {
        EdgeClothTest test = new EdgeClothTest();
        test.newObject();
        test.newObjectsAreApart();
        test.signFillsEighty();
        test.signFromHighestByte();
        test.signRefused();
        test.endBothSides();
        test.endForgetsTheRest();
        test.curveLeastAndGreatest();
        test.curveNumbersTooGreat();
        test.curveYearsGoUp();
        test.curveEndsTooEarly();
        test.curveWrongSigns();
        test.curveSixtySigns();
        test.curveYearsCutAtSixty();
        test.curveEmptiesTheText();
        test.valueBothSides();
        test.valueBetweenPoints();
        test.wovenBothSides();
        test.rectanglesTaken();
        test.rectanglesRefused();
        test.mendsAreSix();
        test.stuffsAreSix();
        test.shareBothSides();
        test.wayBothSides();
        test.wayGoesByHundredths();
        test.houseBothSides();
        test.sheetOfNoneAndOfSix();
        test.sheetHoldsSpans();
        test.sheetOfBytes();
        test.sheetOfShorts();
        test.sheetOfInts();
        test.sheetNoneAheadOfOthers();
        test.sheetBelowNoneAndMissing();
        test.threadBothSides();
        test.threadAtTheRimOfRectangles();
        test.threadIsCut();
        test.edges.close();
    }

    // ---- promise 1

    private void newObject() {
        edges.promise(1);
        ClothWithMan cloth = new ClothWithMan();
        int[] due = {1, 0, 0, 0, 0, 0, 0, 0, 0, 0, 100};
        for (int what = 0; what < due.length; what++) {
            edges.same("told(" + what + ")", due[what], cloth.told(what));
        }
        edges.missing("no number in the ROW", () -> cloth.row(0));
        edges.same("the first VALUE", 0, cloth.value(0));
        edges.same("the last VALUE", 0, cloth.value(199));
        for (int way = 0; way < 4; way++) {
            edges.same("nothing goes", 0, cloth.way(way, 0));
        }
        edges.same("no STORY", -1, cloth.needs(0));
        edges.same("no FAITH", -1, cloth.faith(0, 1));
        edges.missing("no PIECE", () -> cloth.truth(0));
        edges.rowed("no HOW", cloth, 0, cloth.open(0, 0), 0);
        for (int person = 0; person < 8; person++) {
            edges.same("no one who wanted it", -1, cloth.omits(person));
        }
        for (int i = 0; i < 3; i++) {
            edges.no("nothing kept", cloth.again(i));
        }
        edges.same("R", 1, cloth.seed(1));
        edges.same("woven in 100", 100, cloth.woven(100));
        edges.same("the empty TEXT is no CURVE", -1, cloth.curve());
        edges.same("the empty TEXT is a STORY", 0, cloth.story());
        edges.same("FAITH at first", 1, cloth.faith(0, 1));
        edges.no("no sign", cloth.end(1));
        for (int house = 0; house < 6; house++) {
            int piece = cloth.piece(0, 0, 0, house);
            edges.same("SLIP at first", 0, cloth.truth(piece));
            cloth.seed(1);
            edges.same("SPAN at first", 16838 % 41 - 20, cloth.draw(piece));
        }
    }

    /** What is told to one object is not told to the next. */
    private void newObjectsAreApart() {
        edges.promise(1);
        List<Long> due = Edges.seen(new ClothWithMan());
        Edges.seen(Edges.rich());
        Edges.seen(Edges.full());
        edges.yes("another object later", due.equals(Edges.seen(new ClothWithMan())));
    }

    // ---- promise 2

    private static ClothWithMan written(String text) {
        ClothWithMan cloth = new ClothWithMan();
        Check.write(cloth, text);
        return cloth;
    }

    private static String ones(int n) {
        return "1".repeat(n);
    }

    private void signFillsEighty() {
        edges.promise(2);
        ClothWithMan cloth = new ClothWithMan();
        for (int n = 4; n <= 80; n += 4) {
            edges.same("how many it has", n, cloth.sign(0));
        }
        for (int n = 73; n <= 76; n++) {
            edges.same("four behind " + n, n + 4, written(ones(n)).sign(0));
        }
        for (int n = 77; n <= 80; n++) {
            ClothWithMan full = written(ones(n));
            edges.same("four behind " + n, -1, full.sign(0));
            edges.same("four behind " + n + ": as many as ahead", n, full.told(9));
        }
        ClothWithMan again = written(ones(80));
        again.end(0);
        edges.same("emptied, it can be filled anew", 4, again.sign(0));
    }

    private void signFromHighestByte() {
        edges.promise(2);
        ClothWithMan cloth = new ClothWithMan();
        cloth.sign('1' << 24 | '2' << 16 | ':' << 8 | '3');
        edges.same("the highest first", 1, cloth.curve());
        edges.same("the highest first", 3, cloth.value(12));
        edges.same("signs as told", 1, Check.curve(cloth, "198:765"));
        edges.same("signs as told", 765, cloth.value(198));
        int[] highest = {0xff3a3030, 0x30ff3a30, 0x303aff30, 0x303a30ff};
        for (int p = 0; p < 4; p++) {
            cloth.sign(highest[p]);
            edges.same("the sign 255 at " + p, -1 - p, cloth.curve());
        }
        int[] none = {0x003a3030, 0x30003a30, 0x303a0030, 0x303a3000};
        for (int p = 0; p < 4; p++) {
            cloth.sign(none[p]);
            edges.same("the sign 0 at " + p, -1 - p, cloth.curve());
        }
        // Lowest 7 bits of these are digits; they are other signs all the same.
        cloth.sign(0xb03a3030);
        edges.same("the highest bit of a sign", -1, cloth.curve());
        cloth.sign(0x303a30b0);
        edges.same("the highest bit of a sign", -4, cloth.curve());
        edges.same("of the least int", 4, cloth.sign(MIN));
        edges.same("of -1", 8, cloth.sign(-1));
    }

    private void signRefused() {
        edges.promise(2);
        edges.changesNothing("80 signs", -1, Edges::full, c -> c.sign(0x30303030));
        String text = "1:1;2:2;3:3;4:4;5:5;6:6;7:7;8:8;9:9;10:1;11:1;12:1;13:1";
        for (int n = 77; n <= 80; n++) {
            String all = text + ";".repeat(n - text.length());
            edges.changesNothing(n + " signs", -1, () -> {
                ClothWithMan cloth = Edges.rich();
                Check.write(cloth, all);
                return cloth;
            }, c -> c.sign(MAX));
        }
    }

    // ---- promise 3

    private void endBothSides() {
        edges.promise(3);
        edges.yes("none of none", new ClothWithMan().end(0));
        int[] lengths = {0, 1, 8, 79, 80};
        for (int length : lengths) {
            edges.yes("all " + length, written(ones(length)).end(length));
            edges.yes("none of " + length, written(ones(length)).end(0));
            edges.no("one more than " + length, written(ones(length)).end(length + 1));
            edges.no("below 0 of " + length, written(ones(length)).end(-1));
        }
        int[] none = {-1, -2, MIN, MIN + 1, 81, 256, 1 << 16, MAX};
        for (int n : none) {
            edges.changesNothing("end(" + n + ")", 0, c -> Edges.bit(c.end(n)));
        }
        edges.changesNothing("one more", 0, Edges::rich, c -> Edges.bit(c.end(9)));
        edges.changesNothing("as many as it has", 1, Edges::rich, c -> Edges.bit(c.end(8)));
        edges.changesNothing("as many as it has", 1, Edges::full, c -> Edges.bit(c.end(80)));
    }

    private void endForgetsTheRest() {
        edges.promise(3);
        ClothWithMan cloth = written("1:2;3:4;");
        edges.yes("the first alone", cloth.end(3));
        edges.same("the first alone", 3, cloth.told(9));
        edges.no("what is cut is gone", cloth.end(4));
        edges.same("signs come behind the first", 7, cloth.sign(0x3b363a37));
        edges.same("signs come behind the first", 2, cloth.curve());
        edges.same("signs come behind the first", 7, cloth.value(6));
        cloth.sign(0x30303030);
        edges.yes("of one sign", cloth.end(1));
        edges.yes("of no sign", cloth.end(0));
        edges.no("of no sign one", cloth.end(1));
    }

    // ---- promise 4

    private void right(int points, String text) {
        ClothWithMan cloth = new ClothWithMan();
        edges.same("CURVE " + text, points, Check.curve(cloth, text));
        edges.same("CURVE " + text + ": POINTS", points, cloth.told(0));
        edges.same("CURVE " + text + ": emptied", 0, cloth.told(9));
    }

    private void wrong(int p, String text) {
        edges.changesNothing("CURVE " + text, -1 - p, Edges::rich, c -> {
            Check.write(c, text);
            return c.curve();
        }, c -> Edges.bit(c.end(0)));
    }

    private void curveLeastAndGreatest() {
        edges.promise(4);
        right(1, "0:0");
        right(1, "199:999");
        right(1, "199:0");
        right(1, "0:999");
        right(1, "000:000");
        right(1, "007:099");
        right(2, "0:0;199:999");
        right(2, "198:999;199:0");
        wrong(0, "");
    }

    private void curveNumbersTooGreat() {
        edges.promise(4);
        right(1, "199:1");
        wrong(2, "200:1");
        wrong(2, "999:1");
        wrong(2, "200");
        wrong(2, "2000:1");
        wrong(6, "1:1;200:1");
        right(1, "1:999");
        wrong(5, "1:1000");
        wrong(5, "1:9999");
        wrong(5, "1:0000");
        wrong(3, "0000:1");
        wrong(3, "1000:1");
        wrong(6, "1:1;0002:1");
        wrong(7, "1:1;1002:1");
    }

    private void curveYearsGoUp() {
        edges.promise(4);
        right(2, "5:1;6:1");
        wrong(4, "5:1;5:1");
        wrong(4, "5:1;4:1");
        wrong(4, "5:1;0:1");
        wrong(6, "5:1;005:1");
        wrong(4, "0:1;0:1");
        wrong(8, "199:1;199:1");
        wrong(8, "199:1;198:1");
        wrong(8, "199:1;200:1");
        right(3, "9:1;10:1;100:1");
        wrong(11, "9:1;100:1;10:1");
        wrong(4, "5:1;5");
        wrong(5, "5:1;6");
        wrong(4, "5:1;5x");
        wrong(4, "5:1;5;");
    }

    private void curveEndsTooEarly() {
        edges.promise(4);
        wrong(1, "1");
        wrong(2, "12");
        wrong(3, "123");
        wrong(2, "1:");
        wrong(4, "123:");
        wrong(4, "1:2;");
        wrong(5, "1:2;3");
        wrong(6, "1:2;3:");
        wrong(8, "1:2;3:4;");
    }

    private void curveWrongSigns() {
        edges.promise(4);
        String[] first = {":", ";", "x", "-1:1", "+1:1", " 1:1", "/:1", "\u00ff", "\u0000"};
        for (String text : first) {
            wrong(0, text);
        }
        String[] second = {"1;", "1,1", "1 :1", "1/1", "1x"};
        for (String text : second) {
            wrong(1, text);
        }
        String[] third = {"1::", "1:;", "1:-1", "1:x", "1:/", "12;", "12x"};
        for (String text : third) {
            wrong(2, text);
        }
        wrong(3, "1:2:");
        wrong(3, "1:2,");
        wrong(3, "1:2 ");
        wrong(3, "1:2x;;;");
        wrong(4, "1:2;;3:4");
        wrong(4, "1:2;:4");
        // The first of two wrong ones.
        wrong(2, "200:x");
        wrong(4, "5:1;4:1000");
    }

    private void curveSixtySigns() {
        edges.promise(4);
        right(14, FIFTY_FIVE + "19:9");
        right(14, FIFTY_FIVE + "199:9");
        right(14, FIFTY_FIVE + "19:99");
        String[] couldEnd = {"199:99", "199:9;", "199:9x", "199:9:", "19:99;", "19:999"};
        for (String end : couldEnd) {
            wrong(60, FIFTY_FIVE + end);
        }
        wrong(60, FIFTY_FIVE + "199:9" + ";".repeat(20));
        wrong(60, FIFTY_FIVE + "199:9" + "\u00ff".repeat(20));
        // The first 60 end with a ;, a YEAR, a :, and could go on.
        wrong(60, FIFTY_FIVE + "19:9;20:1");
        wrong(60, FIFTY_FIVE + "19:9;x");
        wrong(60, FIFTY + "100:1;" + "101:");
        wrong(60, FIFTY + "18:111;" + "199:1");
        wrong(60, FIFTY + "100:1;" + "101:1");
        wrong(60, FIFTY + "018:111;" + "19x");
        // Those end at the 60th sign too early: their end is wrong.
        wrong(60, FIFTY_FIVE + "19:9;");
        wrong(60, FIFTY + "018:111;" + "19");
        wrong(60, FIFTY + "100:1;" + "101:");
        // The first 60 can neither go on nor end.
        wrong(59, FIFTY_FIVE + "199:;1");
        wrong(59, FIFTY_FIVE + "199:x1");
        wrong(59, FIFTY_FIVE + "19:9x1");
        wrong(58, FIFTY_FIVE + "199;11");
        wrong(57, FIFTY_FIVE + "200:11");
        wrong(0, "x".repeat(80));
        wrong(3, "1".repeat(80));
        // One sign less than 60 that ends too early.
        wrong(59, FIFTY_FIVE + "199:");
    }

    private void curveYearsCutAtSixty() {
        edges.promise(4);
        // Of the YEAR 190 the first 60 have 19 alone, which is not behind 100, nor behind 19.
        wrong(59, FIFTY + "100:111;" + "190:1");
        wrong(59, FIFTY + "019:111;" + "190:1");
        wrong(60, FIFTY + "018:111;" + "190:1");
        wrong(59, FIFTY + "100:111;" + "19");
        // Of the YEAR 200 they have 20, which is no YEAR too great.
        wrong(60, FIFTY + "019:111;" + "200:1");
        wrong(59, FIFTY + "018:11;" + "200:1");
    }

    private void curveEmptiesTheText() {
        edges.promise(4);
        ClothWithMan cloth = written("1:1;5:5");
        cloth.curve();
        edges.same("read", 0, cloth.told(9));
        edges.same("read again there is none", -1, cloth.curve());
        edges.same("the CURVE stays", 2, cloth.told(0));
        edges.same("the CURVE stays", 5, cloth.value(199));
        edges.same("fewer POINTS than before", 1, Check.curve(cloth, "7:3"));
        edges.same("fewer POINTS than before", 3, cloth.value(1));
        edges.same("fewer POINTS than before", 3, cloth.value(199));
    }

    // ---- promise 5

    private void valueBothSides() {
        edges.promise(5);
        ClothWithMan cloth = new ClothWithMan();
        Check.curve(cloth, "0:1;1:3;198:7;199:999");
        edges.same("value(0)", 1, cloth.value(0));
        edges.same("value(1)", 3, cloth.value(1));
        edges.same("value(198)", 7, cloth.value(198));
        edges.same("value(199)", 999, cloth.value(199));
        int[] none = {-1, 200, 256, MIN, MIN + 199, MAX};
        for (int year : none) {
            edges.changesNothing("value(" + year + ")", -1, c -> c.value(year));
        }
    }

    private void valueBetweenPoints() {
        edges.promise(5);
        ClothWithMan cloth = new ClothWithMan();
        Check.curve(cloth, "10:100;13:90;16:100;17:0;18:999;190:999;197:0");
        int[][] due = {
            {0, 100}, {9, 100}, {10, 100}, {11, 97}, {12, 94}, {13, 90}, {14, 93}, {15, 96}, {16, 100}, {17, 0},
            {18, 999}, {19, 999}, {190, 999}, {191, 857}, {196, 143}, {197, 0}, {198, 0}, {199, 0},
        };
        for (int[] d : due) {
            edges.same("value(" + d[0] + ")", d[1], cloth.value(d[0]));
        }
        Check.curve(cloth, "0:999;199:0");
        // 999 less 4.. of 5.02, less 993 of 993.98.
        edges.same("cut to 0", 994, cloth.value(1));
        edges.same("cut to 0", 6, cloth.value(198));
        Check.curve(cloth, "0:0;199:999");
        edges.same("cut to 0", 5, cloth.value(1));
        edges.same("cut to 0", 993, cloth.value(198));
    }

    // ---- promise 6

    private void wovenBothSides() {
        edges.promise(6);
        ClothWithMan cloth = new ClothWithMan();
        edges.same("the first YEAR", 100, cloth.woven(0));
        edges.same("the first YEAR", 0, cloth.told(10));
        edges.same("the last YEAR", 0, cloth.woven(199));
        edges.same("the last YEAR", 199, cloth.told(10));
        edges.same("the same YEAR", 199, cloth.woven(199));
        int[] none = {-1, 200, 256, MIN, MAX};
        for (int year : none) {
            edges.changesNothing("woven(" + year + ")", -1, c -> c.woven(year));
        }
    }

    // ---- promises 7 and 8

    private void rectanglesTaken() {
        int[][] taken = {
            {0, 0, 1, 1, 0}, {23, 7, 1, 1, 199}, {0, 0, 24, 8, 100}, {23, 0, 1, 8, 0}, {0, 7, 24, 1, 0},
            {1, 1, 23, 7, 0}, {22, 6, 2, 2, 0}, {22, 6, 1, 1, 0},
        };
        for (int[] r : taken) {
            ClothWithMan cloth = new ClothWithMan();
            edges.promise(7);
            edges.same("a MEND", 0, cloth.mend(r[0], r[1], r[2], r[3], r[4]));
            edges.same("a MEND", 1, cloth.told(1));
            edges.promise(8);
            edges.same("STUFF", 0, cloth.stuff(r[0], r[1], r[2], r[3], r[4], 1));
            edges.same("STUFF", 1, cloth.told(2));
        }
    }

    private void rectanglesRefused() {
        int[][] refused = {
            {-1, 0, 1, 1, 0}, {24, 0, 1, 1, 0}, {0, -1, 1, 1, 0}, {0, 8, 1, 1, 0},
            {-1, 0, 2, 1, 0}, {0, -1, 1, 2, 0}, {0, 0, 0, 1, 0}, {0, 0, 1, 0, 0}, {0, 0, -1, 1, 0}, {0, 0, 1, -1, 0},
            {0, 0, 25, 1, 0}, {0, 0, 1, 9, 0}, {1, 0, 24, 1, 0}, {0, 1, 1, 8, 0}, {23, 0, 2, 1, 0}, {0, 7, 1, 2, 0},
            {24, 0, 0, 1, 0}, {0, 8, 1, 0, 0}, {0, 0, 1, 1, -1}, {0, 0, 1, 1, 200},
            {1, 0, MAX, 1, 0}, {0, 1, 1, MAX, 0}, {MAX, 0, 1, 1, 0}, {0, MAX, 1, 1, 0}, {MAX, 0, MAX, 1, 0},
            {0, 0, MIN, 1, 0}, {0, 0, 1, MIN, 0}, {MIN, 0, 1, 1, 0}, {0, MIN, 1, 1, 0}, {MIN, 0, MIN, 1, 0},
            {0, 0, 1, 1, MIN}, {0, 0, 1, 1, MAX},
        };
        for (int[] r : refused) {
            String what = "from " + r[0] + " " + r[1] + ", " + r[2] + " by " + r[3] + ", " + r[4];
            edges.promise(7);
            edges.changesNothing(what, -1, c -> c.mend(r[0], r[1], r[2], r[3], r[4]));
            edges.promise(8);
            edges.changesNothing(what, -1, c -> c.stuff(r[0], r[1], r[2], r[3], r[4], 50));
        }
    }

    private void mendsAreSix() {
        edges.promise(7);
        ClothWithMan cloth = new ClothWithMan();
        for (int n = 0; n < 6; n++) {
            edges.same("its number", n, cloth.mend(n, 0, 1, 1, n));
        }
        edges.same("six", 6, cloth.told(1));
        edges.changesNothing("a seventh", -1, Edges::full, c -> c.mend(0, 0, 1, 1, 0));
        edges.same("six MENDS leave room for STUFF", 0, cloth.stuff(0, 0, 1, 1, 0, 1));
    }

    private void stuffsAreSix() {
        edges.promise(8);
        ClothWithMan cloth = new ClothWithMan();
        for (int n = 0; n < 6; n++) {
            edges.same("its number", n, cloth.stuff(n, 0, 1, 1, n, n));
        }
        edges.same("six", 6, cloth.told(2));
        edges.changesNothing("a seventh", -1, Edges::full, c -> c.stuff(0, 0, 1, 1, 0, 1));
        edges.same("six STUFFS leave room for MENDS", 0, cloth.mend(0, 0, 1, 1, 0));
    }

    private void shareBothSides() {
        edges.promise(8);
        ClothWithMan cloth = new ClothWithMan();
        Check.curve(cloth, "0:0;100:100");
        edges.same("none of it", 0, cloth.stuff(0, 0, 1, 1, 0, 0));
        edges.same("none of it", 100, cloth.thread(0, 0, 0));
        edges.same("the most of it", 1, cloth.stuff(1, 0, 1, 1, 0, 90));
        edges.same("the most of it", 10, cloth.thread(1, 0, 0));
        int[] none = {-1, 91, 100, MIN, MAX};
        for (int share : none) {
            edges.changesNothing("share " + share, -1, c -> c.stuff(0, 0, 1, 1, 0, share));
        }
    }

    // ---- promise 9

    private void wayBothSides() {
        edges.promise(9);
        ClothWithMan cloth = new ClothWithMan();
        for (int way = 0; way < 4; way++) {
            edges.same("what it was at first", 0, cloth.way(way, 100));
            edges.same("what it was", 100, cloth.way(way, 0));
            edges.same("what it was", 0, cloth.way(way, 1 + way));
        }
        for (int way = 0; way < 4; way++) {
            edges.same("each WAY its own", 1 + way, cloth.way(way, 0));
        }
        int[][] refused = {
            {-1, 1}, {4, 1}, {0, -1}, {0, 101}, {3, 101}, {3, -1}, {MIN, 0}, {MAX, 0}, {0, MIN}, {0, MAX},
        };
        for (int[] r : refused) {
            edges.changesNothing("way(" + r[0] + ", " + r[1] + ")", -1, c -> c.way(r[0], r[1]));
        }
    }

    private void wayGoesByHundredths() {
        edges.promise(9);
        ClothWithMan cloth = new ClothWithMan();
        Check.curve(cloth, "0:0;100:500");
        cloth.stuff(0, 0, 1, 1, 0, 67);
        edges.same("nothing goes", 165, cloth.thread(0, 0, 0));
        cloth.way(0, 33);
        // 67 * 67 / 100: 44.89, cut: 44.
        edges.same("a third goes", 280, cloth.thread(0, 0, 0));
        cloth.way(0, 99);
        // 0.67, cut.
        edges.same("all but one goes", 500, cloth.thread(0, 0, 0));
        cloth.way(0, 98);
        edges.same("all but two goes", 495, cloth.thread(0, 0, 0));
        cloth.way(0, 100);
        edges.same("all goes", 500, cloth.thread(0, 0, 0));
    }

    // ---- promises 10 and 11

    private static ClothWithMan byHouse() {
        ClothWithMan cloth = new ClothWithMan();
        for (int house = 0; house < 6; house++) {
            cloth.piece(0, 0, 0, house);
            cloth.house(house, 0, 33);
        }
        return cloth;
    }

    private void spans(String what, ClothWithMan cloth, int... due) {
        for (int house = 0; house < 6; house++) {
            cloth.seed(1);
            edges.same(what + ", SPAN of " + house, 16838 % (2 * due[house] + 1) - due[house], cloth.draw(house));
        }
    }

    private void houseBothSides() {
        edges.promise(10);
        ClothWithMan cloth = byHouse();
        for (int house = 0; house < 6; house++) {
            edges.yes("the least", cloth.house(house, -50, 1));
            edges.same("the least SLIP", -50, cloth.truth(house));
            edges.yes("the greatest", cloth.house(house, 50, 60));
            edges.same("the greatest SLIP", 50, cloth.truth(house));
            cloth.house(house, 0, house == 2 ? 1 : 60);
        }
        spans("the least and the greatest", cloth, 60, 60, 1, 60, 60, 60);
        int[][] refused = {
            {-1, 0, 1}, {6, 0, 1}, {0, -51, 1}, {0, 51, 1}, {0, 0, 0}, {0, 0, 61}, {5, -51, 1}, {5, 51, 60}, {5, 0, 0},
            {5, 0, 61}, {0, 0, -1}, {MIN, 0, 1}, {MAX, 0, 1}, {0, MIN, 1}, {0, MAX, 1}, {0, 0, MIN}, {0, 0, MAX},
        };
        for (int[] r : refused) {
            edges.changesNothing("house(" + r[0] + ", " + r[1] + ", " + r[2] + ")", 0,
                    c -> Edges.bit(c.house(r[0], r[1], r[2])));
        }
    }

    private void sheet(String what, long due, int kind, int n, int f, int step, int... spans) {
        ClothWithMan cloth = byHouse();
        edges.same(what, due, cloth.sheet(kind, n, f, step));
        spans(what, cloth, spans);
    }

    private void sheetOfNoneAndOfSix() {
        edges.promise(11);
        for (int kind = 0; kind < 3; kind++) {
            sheet("none", 120, kind, 0, 5, 5, 20, 20, 20, 20, 20, 20);
            sheet("one", 105, kind, 1, 5, 5, 5, 20, 20, 20, 20, 20);
            sheet("five", 95, kind, 5, 5, 5, 5, 10, 15, 20, 25, 20);
            sheet("six", 105, kind, 6, 5, 5, 5, 10, 15, 20, 25, 30);
            sheet("all alike", 42, kind, 6, 7, 0, 7, 7, 7, 7, 7, 7);
        }
        ClothWithMan cloth = byHouse();
        for (int house = 0; house < 6; house++) {
            cloth.house(house, 10 + house, 7);
        }
        cloth.sheet(2, 3, 1, 1);
        for (int house = 0; house < 6; house++) {
            edges.same("SLIPS stay", 10 + house, cloth.truth(house));
        }
    }

    private void sheetHoldsSpans() {
        edges.promise(11);
        for (int kind = 0; kind < 3; kind++) {
            sheet("1 and below", 1 + 1 + 1 + 2 + 40, kind, 4, 2, -1, 2, 1, 1, 1, 20, 20);
            sheet("60 and above", 59 + 60 + 60 + 60 + 40, kind, 4, 59, 1, 59, 60, 60, 60, 20, 20);
            sheet("far below", 1 + 100, kind, 1, -100, 1, 1, 20, 20, 20, 20, 20);
            sheet("far above", 60 + 100, kind, 1, 100, 1, 60, 20, 20, 20, 20, 20);
        }
    }

    private void sheetOfBytes() {
        edges.promise(11);
        sheet("127, 128", 60 + 1 + 80, 0, 2, 127, 1, 60, 1, 20, 20, 20, 20);
        sheet("-128, -129", 1 + 60 + 80, 0, 2, -128, -1, 1, 60, 20, 20, 20, 20);
        sheet("254 .. 259", 1 + 1 + 1 + 1 + 2 + 3, 0, 6, 254, 1, 1, 1, 1, 1, 2, 3);
        sheet("lowest bits", 60 + 60 + 80, 0, 2, 256 + 60, 1, 60, 60, 20, 20, 20, 20);
        sheet("lowest bits", 7 + 7 + 80, 0, 2, 7, 1 << 24, 7, 7, 20, 20, 20, 20);
        sheet("lowest bits", 1 + 100, 0, 1, MAX, 0, 1, 20, 20, 20, 20, 20);
        sheet("lowest bits", 1 + 100, 0, 1, MIN, 0, 1, 20, 20, 20, 20, 20);
    }

    private void sheetOfShorts() {
        edges.promise(11);
        sheet("127, 128", 60 + 60 + 80, 1, 2, 127, 1, 60, 60, 20, 20, 20, 20);
        sheet("32767, 32768", 60 + 1 + 80, 1, 2, 32767, 1, 60, 1, 20, 20, 20, 20);
        sheet("-32768, -32769", 1 + 60 + 80, 1, 2, -32768, -1, 1, 60, 20, 20, 20, 20);
        sheet("65535 .. 65538", 1 + 1 + 1 + 2 + 40, 1, 4, 65535, 1, 1, 1, 1, 2, 20, 20);
        sheet("lowest bits", 9 + 9 + 80, 1, 2, 9, 1 << 16, 9, 9, 20, 20, 20, 20);
        sheet("not of bytes", 60 + 100, 1, 1, 256, 0, 60, 20, 20, 20, 20, 20);
    }

    private void sheetOfInts() {
        edges.promise(11);
        sheet("32767, 32768", 60 + 60 + 80, 2, 2, 32767, 1, 60, 60, 20, 20, 20, 20);
        sheet("the greatest, the least", 60 + 1 + 80, 2, 2, MAX, 1, 60, 1, 20, 20, 20, 20);
        sheet("the least, the greatest", 1 + 60 + 80, 2, 2, MIN, -1, 1, 60, 20, 20, 20, 20);
        sheet("round", 5 + 60 + 1 + 1 + 5 + 60, 2, 6, 5, 1 << 30, 5, 60, 1, 1, 5, 60);
        sheet("not of shorts", 60 + 100, 2, 1, 65536, 0, 60, 20, 20, 20, 20, 20);
    }

    private void sheetNoneAheadOfOthers() {
        edges.promise(11);
        int[][] refused = {
            {-1, 1}, {4, 1}, {-1, -1}, {4, -1}, {4, 7}, {0, 7}, {1, 7}, {2, 7}, {3, 7}, {3, MAX}, {0, MAX}, {MIN, MIN},
            {MAX, 0}, {-1, 0}, {4, 6},
        };
        for (int[] r : refused) {
            edges.changesNothing("sheet(" + r[0] + ", " + r[1] + ")", -1, c -> c.sheet(r[0], r[1], 3, 4));
        }
    }

    private void sheetBelowNoneAndMissing() {
        edges.promise(11);
        for (int kind = 0; kind < 3; kind++) {
            int asked = kind;
            edges.changesNothing("n of -1, kind " + kind, -2, c -> c.sheet(asked, -1, 3, 4));
            edges.changesNothing("the least n, kind " + kind, -2, c -> c.sheet(asked, MIN, 3, 4));
        }
        int[] any = {MIN, -1, 0, 1, 6};
        for (int n : any) {
            sheet("missing, n " + n, -3, 3, n, 3, 4, 20, 20, 20, 20, 20, 20);
        }
        edges.changesNothing("missing where all SPANS are 20", -3, ClothWithMan::new, c -> c.sheet(3, 0, 1, 1));
    }

    // ---- promise 12

    private void threadBothSides() {
        edges.promise(12);
        ClothWithMan cloth = new ClothWithMan();
        Check.curve(cloth, "0:0;199:199");
        int[][] places = {{0, 0}, {23, 0}, {0, 7}, {23, 7}};
        for (int[] place : places) {
            edges.same("a corner", 100, cloth.thread(place[0], place[1], 0));
            edges.same("a corner", 100, cloth.thread(place[0], place[1], 3));
        }
        int[][] none = {
            {-1, 0, 0}, {24, 0, 0}, {0, -1, 0}, {0, 8, 0}, {0, 0, -1}, {0, 0, 4}, {23, 8, 3}, {24, 7, 3}, {23, 7, 4},
            {MIN, 0, 0}, {MAX, 0, 0}, {0, MIN, 0}, {0, MAX, 0}, {0, 0, MIN}, {0, 0, MAX},
        };
        for (int[] n : none) {
            edges.changesNothing("thread(" + n[0] + ", " + n[1] + ", " + n[2] + ")", -1,
                    c -> c.thread(n[0], n[1], n[2]));
        }
    }

    private void threadAtTheRimOfRectangles() {
        edges.promise(12);
        ClothWithMan mended = new ClothWithMan();
        Check.curve(mended, "0:0;199:199");
        mended.mend(5, 2, 3, 4, 7);
        ClothWithMan stuffed = new ClothWithMan();
        Check.curve(stuffed, "0:0;199:199");
        stuffed.stuff(5, 2, 3, 4, 0, 50);
        int[][] in = {{5, 2}, {7, 2}, {5, 5}, {7, 5}};
        int[][] out = {{4, 2}, {5, 1}, {8, 2}, {7, 1}, {4, 5}, {5, 6}, {8, 5}, {7, 6}};
        for (int[] p : in) {
            edges.same("in a MEND", 7, mended.thread(p[0], p[1], 0));
            edges.same("in STUFF", 50, stuffed.thread(p[0], p[1], 0));
        }
        for (int[] p : out) {
            edges.same("beside a MEND", 100, mended.thread(p[0], p[1], 0));
            edges.same("beside STUFF", 100, stuffed.thread(p[0], p[1], 0));
        }
        for (int n = 1; n < 6; n++) {
            mended.mend(5, 2, 1, 1, 7 + n);
            edges.same("the latest told MEND", 7 + n, mended.thread(5, 2, 0));
            edges.same("the first MEND where no other is", 7, mended.thread(7, 5, 0));
        }
        mended.woven(0);
        edges.same("a MEND whatever it is woven in", 7, mended.thread(7, 5, 0));
        edges.same("woven elsewhere", 0, mended.thread(8, 5, 0));
    }

    private void threadIsCut() {
        edges.promise(12);
        ClothWithMan cloth = new ClothWithMan();
        Check.curve(cloth, "0:0;100:999;199:1");
        for (int n = 0; n < 6; n++) {
            cloth.stuff(0, 0, 1 + n, 1, 0, 50);
        }
        // 999, 499, 249, 124, 62, 31, 15: each cut.
        int[] due = {15, 31, 62, 124, 249, 499, 999};
        for (int x = 0; x < due.length; x++) {
            edges.same("STUFFS one by one", due[x], cloth.thread(x, 0, 0));
        }
    }
}
