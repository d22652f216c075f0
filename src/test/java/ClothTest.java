/** Promises 1 to 12: a new object and the cloth. */
public final class ClothTest {
    private static final int MIN = Integer.MIN_VALUE;
    private static final int MAX = Integer.MAX_VALUE;

    private static final String FIFTY_FIVE =
            "0:1;1:2;2:3;3:4;4:5;5:6;6:7;7:8;8:9;9:0;10:0;11:0;12:0;";

    private final Check check = new Check("ClothTest");

    public static void main(String[] args) {
        ClothTest test = new ClothTest();
        test.newObject();
        test.signsAndEnd();
        test.curves();
        test.wrongCurves();
        test.longCurves();
        test.values();
        test.wovenYears();
        test.mends();
        test.stuffs();
        test.ways();
        test.houses();
        test.sheets();
        test.refusedSheets();
        test.threads();
        test.check.close();
    }

    private void newObject() {
        ClothWithMan cloth = new ClothWithMan();
        int[] due = {1, 0, 0, 0, 0, 0, 0, 0, 0, 0, 100};
        for (int what = 0; what < due.length; what++) {
            check.same("new: told(" + what + ")", due[what], cloth.told(what));
        }
        for (int year = 0; year < 200; year++) {
            check.same("new: value(" + year + ")", 0, cloth.value(year));
        }
        check.same("new: R", 1, cloth.seed(1));
        for (int way = 0; way < 4; way++) {
            check.same("new: what goes", 0, cloth.way(way, 0));
        }
        // With span 20 a draw is of 41; with slip 0 the truth is the thread.
        for (int house = 0; house < 6; house++) {
            int piece = cloth.piece(0, 0, 0, house);
            check.same("new: slip", 0, cloth.truth(piece));
            cloth.seed(1);
            check.same("new: span", 16838 % 41 - 20, cloth.draw(piece));
        }
        check.no("new: nothing kept", cloth.again(0));
        check.same("new: no one wants", -1, cloth.omits(0));
        check.missing("new: row", () -> cloth.row(0));
    }

    private void signsAndEnd() {
        ClothWithMan cloth = new ClothWithMan();
        for (int n = 4; n <= 80; n += 4) {
            check.same("sign", n, cloth.sign(0x313a3233));
        }
        check.same("sign: full", -1, cloth.sign(0));
        check.same("sign: refused changes nothing", 80, cloth.told(9));
        check.no("end: not so many", cloth.end(81));
        check.no("end: below 0", cloth.end(-1));
        check.no("end: far below 0", cloth.end(MIN));
        check.no("end: far above", cloth.end(MAX));
        check.same("end: refused changes nothing", 80, cloth.told(9));
        check.yes("end: all", cloth.end(80));
        check.yes("end", cloth.end(77));
        check.same("sign: 3 places are too few", -1, cloth.sign(0));
        check.yes("end", cloth.end(76));
        check.same("sign: 4 places do", 80, cloth.sign(0));
        check.yes("end: the first alone", cloth.end(4));
        check.same("end: the first alone", 1, cloth.curve());
        check.same("the highest byte first", 23, cloth.value(0));
        check.yes("end: of none", cloth.end(0));
        check.no("end: of none one", cloth.end(1));
        cloth.sign(0xff313233);
        check.same("a sign above 127", -1, cloth.curve());
    }

    private void curves() {
        ClothWithMan cloth = new ClothWithMan();
        check.same("curve", 4, Check.curve(cloth, "0:200;100:300;150:100;199:170"));
        check.same("curve: points", 4, cloth.told(0));
        check.same("curve: the text is emptied", 0, cloth.told(9));
        check.same("curve: one point", 1, Check.curve(cloth, "199:999"));
        check.same("curve: numbers of 3 digits", 2, Check.curve(cloth, "000:000;001:007"));
        check.same("curve: as told", 7, cloth.value(1));
        String most = "0:1;1:2;2:3;3:4;4:5;5:6;6:7;7:8;8:9;9:0";
        check.same("curve: 10", 10, Check.curve(cloth, most));
        check.same("curve: 0 behind", 0, cloth.value(199));
        check.same("curve: exactly 60 signs", 14, Check.curve(cloth, FIFTY_FIVE + "199:9"));
        check.same("curve: behind", 9, cloth.value(199));
    }

    private void wrong(int p, String text) {
        ClothWithMan cloth = new ClothWithMan();
        Check.curve(cloth, "5:55;6:66");
        cloth.needs(Check.story(cloth, "w1"));
        check.same("curve wrong: " + text, -1 - p, Check.curve(cloth, text));
        check.same("curve wrong: emptied: " + text, 0, cloth.told(9));
        check.same("curve wrong: stays: " + text, 2, cloth.told(0));
        check.same("curve wrong: stays: " + text, 66, cloth.value(7));
        check.row("curve wrong: row: " + text, cloth, 1);
    }

    private void wrongCurves() {
        wrong(0, "");
        wrong(0, ":");
        wrong(0, "x");
        wrong(0, " 1:1");
        wrong(0, "-1:1");
        wrong(1, "1");
        wrong(1, "1;2");
        wrong(2, "1:");
        wrong(2, "1:;");
        wrong(3, "1:2 ");
        wrong(3, "1:2:");
        wrong(4, "1:2;");
        wrong(4, "1:2;;");
        wrong(5, "1:2;3");
        wrong(6, "1:2;3:");
        wrong(2, "200:1");
        wrong(2, "200");
        wrong(2, "999");
        wrong(2, "2000:1");
        wrong(3, "1000:1");
        wrong(3, "0001:1");
        wrong(5, "1:0000");
        wrong(5, "1:1000");
        wrong(4, "5:1;5:1");
        wrong(4, "5:1;4");
        wrong(4, "5:1;4x");
        wrong(6, "50:1;49:1");
        wrong(7, "150:1;15:1");
        wrong(8, "150:1;149:1");
        wrong(7, "198:1;19");
        wrong(8, "199:1;200:1");
        wrong(0, "/:1");
        wrong(1, "1/1");
    }

    private void longCurves() {
        check.same("signs", 55, FIFTY_FIVE.length());
        wrong(59, FIFTY_FIVE + "199:");
        wrong(59, FIFTY_FIVE + "199::");
        wrong(59, FIFTY_FIVE + "199:x1");
        wrong(59, FIFTY_FIVE + "19:9x9");
        wrong(60, FIFTY_FIVE + "199:99");
        wrong(60, FIFTY_FIVE + "199:9;");
        wrong(60, FIFTY_FIVE + "199:9x");
        wrong(60, FIFTY_FIVE + "19:99" + ";20:1");
        wrong(60, FIFTY_FIVE + "19:9;");
        wrong(60, FIFTY_FIVE + "19:9;20:1");
        wrong(60, FIFTY_FIVE + "19:9;xxxxxxxxxxxxxxxxxxxx");
        wrong(3, "1:1x" + FIFTY_FIVE + "19:9;");
        // A YEAR cut at the 60th sign, as far as it stands there.
        String fifty = FIFTY_FIVE.substring(0, 50);
        wrong(59, fifty + "100:111;" + "19");
        wrong(58, fifty + "100:111;" + "1");
        wrong(59, fifty + "100:111;" + "190:1");
        wrong(60, fifty + "18:111;" + "199:1");
        wrong(60, fifty + "018:111;" + "19");
        wrong(60, fifty + "018:111;" + "1999999");
        wrong(60, fifty + "018:111;" + "200:1");
        String fourteen = "0:0;1:0;2:0;3:0;4:0;5:0;6:0;7:0;8:0;9:0;";
        wrong(60, fourteen + "10:0;11:0;12:0;13:0;");
        wrong(60, fourteen + "10:0;11:0;12:0;13:0;14:0");
    }

    private void values() {
        ClothWithMan cloth = new ClothWithMan();
        Check.curve(cloth, "10:100;13:110;20:90;30:90");
        int[] years = {0, 9, 10, 11, 12, 13, 14, 15, 19, 20, 25, 30, 31, 199};
        int[] due = {100, 100, 100, 103, 106, 110, 108, 105, 93, 90, 90, 90, 90, 90};
        for (int i = 0; i < years.length; i++) {
            check.same("value(" + years[i] + ")", due[i], cloth.value(years[i]));
        }
        check.same("value: none", -1, cloth.value(-1));
        check.same("value: none", -1, cloth.value(200));
        check.same("value: none", -1, cloth.value(MIN));
        check.same("value: none", -1, cloth.value(MAX));
    }

    private void wovenYears() {
        ClothWithMan cloth = new ClothWithMan();
        check.same("woven", 100, cloth.woven(0));
        check.same("woven", 0, cloth.woven(199));
        check.same("woven: refused", -1, cloth.woven(200));
        check.same("woven: refused", -1, cloth.woven(-1));
        check.same("woven: stays", 199, cloth.told(10));
        check.same("woven", 199, cloth.woven(5));
    }

    private void mends() {
        ClothWithMan cloth = new ClothWithMan();
        int[][] refused = {
            {-1, 0, 1, 1, 0}, {24, 0, 1, 1, 0}, {0, -1, 1, 1, 0}, {0, 8, 1, 1, 0},
            {0, 0, 0, 1, 0}, {0, 0, 1, 0, 0}, {0, 0, 25, 1, 0}, {0, 0, 1, 9, 0},
            {23, 0, 2, 1, 0}, {0, 7, 1, 2, 0}, {0, 0, 1, 1, -1}, {0, 0, 1, 1, 200},
            {1, 0, MAX, 1, 0}, {0, 1, 1, MAX, 0}, {0, 0, MIN, 1, 0}, {MIN, 0, MAX, 1, 0},
        };
        for (int[] r : refused) {
            check.same("mend refused", -1, cloth.mend(r[0], r[1], r[2], r[3], r[4]));
            check.same("stuff refused", -1, cloth.stuff(r[0], r[1], r[2], r[3], r[4], 10));
        }
        check.same("mend: refused ones are not told", 0, cloth.told(1));
        check.same("stuff: refused ones are not told", 0, cloth.told(2));
        check.same("mend: all", 0, cloth.mend(0, 0, 24, 8, 199));
        check.same("mend: the last place", 1, cloth.mend(23, 7, 1, 1, 0));
        for (int n = 2; n < 6; n++) {
            check.same("mend", n, cloth.mend(0, 0, 1, 1, n));
        }
        check.same("mend: 6", -1, cloth.mend(0, 0, 1, 1, 7));
        check.same("mends", 6, cloth.told(1));
    }

    private void stuffs() {
        ClothWithMan cloth = new ClothWithMan();
        check.same("stuff: share", -1, cloth.stuff(0, 0, 1, 1, 0, -1));
        check.same("stuff: share", -1, cloth.stuff(0, 0, 1, 1, 0, 91));
        check.same("stuff: none of it", 0, cloth.stuff(0, 0, 24, 8, 0, 0));
        for (int n = 1; n < 6; n++) {
            check.same("stuff", n, cloth.stuff(23, 7, 1, 1, 199, 90));
        }
        check.same("stuff: 6", -1, cloth.stuff(0, 0, 1, 1, 0, 1));
        check.same("stuffs", 6, cloth.told(2));
    }

    private void ways() {
        ClothWithMan cloth = new ClothWithMan();
        check.same("way", 0, cloth.way(3, 100));
        check.same("way", 100, cloth.way(3, 1));
        check.same("way: none such", -1, cloth.way(4, 1));
        check.same("way: none such", -1, cloth.way(-1, 1));
        check.same("way: too much", -1, cloth.way(3, 101));
        check.same("way: too little", -1, cloth.way(3, -1));
        check.same("way: stays", 1, cloth.way(3, 0));
        check.same("way: others stay", 0, cloth.way(0, 0));
    }

    private void houses() {
        ClothWithMan cloth = new ClothWithMan();
        int piece = cloth.piece(0, 0, 0, 5);
        check.yes("house", cloth.house(5, -50, 1));
        check.same("house: slip", -50, cloth.truth(piece));
        check.yes("house", cloth.house(5, 50, 60));
        check.same("house: slip", 50, cloth.truth(piece));
        int[][] refused = {{-1, 0, 1}, {6, 0, 1}, {5, -51, 1}, {5, 51, 1}, {5, 0, 0}, {5, 0, 61}};
        for (int[] r : refused) {
            check.no("house refused", cloth.house(r[0], r[1], r[2]));
        }
        check.same("house: refused changes nothing", 50, cloth.truth(piece));
        cloth.seed(1);
        check.same("house: span", 50 + 16838 % 121 - 60, cloth.draw(piece));
    }

    private void spans(String what, ClothWithMan cloth, int... due) {
        for (int house = 0; house < 6; house++) {
            int n = 2 * due[house] + 1;
            cloth.seed(1);
            check.same(what + ", span of " + house, 16838 % n - due[house], cloth.draw(house));
        }
    }

    private static ClothWithMan piecesByHouse() {
        ClothWithMan cloth = new ClothWithMan();
        for (int house = 0; house < 6; house++) {
            cloth.piece(0, 0, 0, house);
            cloth.house(house, 0, 33);
        }
        return cloth;
    }

    private void sheets() {
        ClothWithMan cloth = piecesByHouse();
        check.same("sheet of ints", 10 + 12 + 14 + 60, cloth.sheet(2, 3, 10, 2));
        spans("sheet of ints", cloth, 10, 12, 14, 20, 20, 20);
        check.same("sheet of 6", 1 + 1 + 1 + 11 + 31 + 51, cloth.sheet(2, 6, -49, 20));
        spans("sheet of 6", cloth, 1, 1, 1, 11, 31, 51);
        check.same("sheet of none", 120, cloth.sheet(0, 0, 7, 7));
        spans("sheet of none", cloth, 20, 20, 20, 20, 20, 20);
        check.same("sheet of bytes that wraps round", 60 + 1 + 1 + 60, cloth.sheet(0, 3, 127, 1));
        check.same("sheet of bytes, lowest bits", 5 + 100, cloth.sheet(0, 1, 256 + 5, 0));
        check.same("sheet of bytes, with their sign", 1 + 100, cloth.sheet(0, 1, 200, 0));
        check.same("sheet of shorts, lowest bits", 5 + 100, cloth.sheet(1, 1, 65536 + 5, 0));
        check.same("sheet of shorts, with their sign", 1 + 100, cloth.sheet(1, 1, 40000, 0));
        check.same("sheet of shorts above a byte", 60 + 100, cloth.sheet(1, 1, 200, 0));
        check.same("sheet of ints above a short", 60 + 100, cloth.sheet(2, 1, 40000, 0));
        check.same("sheet of ints below 1", 1 + 100, cloth.sheet(2, 1, 0, 0));
        check.same("sheet of ints of 60, 61", 120 + 80, cloth.sheet(2, 2, 60, 1));
        check.same("sheet that wraps round", 60 + 1 + 80, cloth.sheet(2, 2, MAX, 1));
    }

    private void refusedSheets() {
        ClothWithMan cloth = piecesByHouse();
        check.same("sheet: another kind", -1, cloth.sheet(4, 1, 1, 1));
        check.same("sheet: another kind", -1, cloth.sheet(-1, 1, 1, 1));
        check.same("sheet: another kind first", -1, cloth.sheet(-1, -1, 1, 1));
        check.same("sheet: above 6", -1, cloth.sheet(2, 7, 1, 1));
        check.same("sheet: above 6, missing", -1, cloth.sheet(3, 7, 1, 1));
        check.same("sheet: below 0", -2, cloth.sheet(0, -1, 1, 1));
        check.same("sheet: below 0", -2, cloth.sheet(1, -1, 1, 1));
        check.same("sheet: below 0", -2, cloth.sheet(2, MIN, 1, 1));
        spans("sheet: nothing changes", cloth, 33, 33, 33, 33, 33, 33);
        check.same("sheet: missing", -3, cloth.sheet(3, 2, 1, 1));
        spans("sheet: missing", cloth, 20, 20, 20, 20, 20, 20);
        check.same("sheet: missing, below 0", -3, cloth.sheet(3, -5, 1, 1));
        check.same("sheet: missing, 6", -3, cloth.sheet(3, 6, 1, 1));
    }

    private void threads() {
        ClothWithMan cloth = new ClothWithMan();
        Check.curve(cloth, "0:0;199:199");
        cloth.woven(100);
        check.same("thread: woven", 100, cloth.thread(0, 0, 0));
        cloth.mend(2, 1, 3, 2, 50);
        cloth.mend(4, 2, 1, 1, 40);
        cloth.mend(2, 1, 1, 1, 60);
        check.same("thread: mended", 50, cloth.thread(3, 1, 0));
        check.same("thread: the latest told mend", 40, cloth.thread(4, 2, 0));
        check.same("thread: the latest told mend", 60, cloth.thread(2, 1, 0));
        check.same("thread: left of it", 100, cloth.thread(1, 1, 0));
        check.same("thread: right of it", 100, cloth.thread(5, 1, 0));
        check.same("thread: above it", 100, cloth.thread(3, 0, 0));
        check.same("thread: below it", 100, cloth.thread(3, 3, 0));
        cloth.stuff(0, 0, 2, 8, 199, 33);
        cloth.stuff(1, 0, 1, 8, 0, 50);
        cloth.way(1, 50);
        cloth.way(2, 100);
        // 100 with 33 of 199: 132.67, cut; then with 50 of 0: 66.
        check.same("thread: stuff", 132, cloth.thread(0, 0, 0));
        check.same("thread: stuffs in order", 66, cloth.thread(1, 0, 0));
        // By way 1 there are 16 (16.5, cut) and 25 left: 115.84, then 86.25.
        check.same("thread: cleaned", 115, cloth.thread(0, 0, 1));
        check.same("thread: cleaned", 86, cloth.thread(1, 0, 1));
        check.same("thread: all goes", 100, cloth.thread(1, 0, 2));
        int[][] none = {{-1, 0, 0}, {24, 0, 0}, {0, -1, 0}, {0, 8, 0}, {0, 0, -1}, {0, 0, 4}};
        for (int[] n : none) {
            check.same("thread: none such", -1, cloth.thread(n[0], n[1], n[2]));
        }
        check.same("thread: the last place", 100, cloth.thread(23, 7, 3));
    }
}
