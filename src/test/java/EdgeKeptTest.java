/** The boundary cases of promises 48 to 52, of the ROW, and of the 512 calls. */
public final class EdgeKeptTest {
    private static final int MIN = Edges.MIN;
    private static final int MAX = Edges.MAX;

    private final Edges edges = new Edges("EdgeKeptTest", 48, 52);

    public static void main(String[] args) {
        EdgeKeptTest test = new EdgeKeptTest();
        test.seedOfAnyInt();
        test.keepBothSides();
        test.keepAnew();
        test.againBothSides();
        test.againAsKept();
        test.againToldSince();
        test.againOfAllThereMayBe();
        test.againLeavesTheRest();
        test.toldBothSides();
        test.toldLeastAndGreatest();
        test.rowBothSides();
        test.rowStaysAndIsToldAnew();
        test.fiveHundredAndTwelveCalls();
        test.edges.close();
    }

    // ---- promise 48

    private void seedOfAnyInt() {
        edges.promise(48);
        ClothWithMan cloth = new ClothWithMan();
        int[] seeds = {0, -1, 1, MIN, MAX, 1 << 16, -5};
        long was = 1;
        for (int seed : seeds) {
            edges.same("what it was", was, cloth.seed(seed));
            was = seed;
        }
        edges.same("what it was", -5, cloth.seed(7));
        cloth.piece(0, 0, 0, 0);
        cloth.draw(0);
        edges.same("behind a draw", 7 * 1103515245 + 12345, cloth.seed(0));
        cloth.draw(0);
        edges.same("behind a draw of 0", 12345, cloth.seed(0));
    }

    // ---- promise 49

    private void keepBothSides() {
        edges.promise(49);
        int[] none = {-1, 3, 4, MIN, MAX};
        for (int i : none) {
            edges.changesNothing("keep(" + i + ")", 0, c -> Edges.bit(c.keep(i)));
        }
        for (int i = 0; i < 3; i++) {
            ClothWithMan cloth = new ClothWithMan();
            cloth.woven(10 + i);
            edges.yes("keep(" + i + ")", cloth.keep(i));
            cloth.woven(0);
            for (int j = 0; j < 3; j++) {
                edges.same("kept under " + i + ", asked " + j, i == j ? 1 : 0, Edges.bit(cloth.again(j)));
            }
            edges.same("as kept", 10 + i, cloth.told(10));
        }
    }

    private void keepAnew() {
        edges.promise(49);
        ClothWithMan cloth = new ClothWithMan();
        for (int i = 0; i < 12; i++) {
            cloth.piece(0, 0, 0, 0);
            cloth.count(i, 50 + i);
        }
        for (int i = 0; i < 6; i++) {
            cloth.story();
            cloth.faith(i, 9);
        }
        cloth.keep(1);
        ClothWithMan other = new ClothWithMan();
        other.keep(1);
        other.woven(3);
        other.keep(1);
        other.woven(4);
        other.again(1);
        edges.same("the later one", 3, other.told(10));
        cloth.again(1);
        cloth.count(0, 7);
        cloth.faith(5, 0);
        cloth.seed(9);
        cloth.keep(1);
        cloth.count(0, 8);
        cloth.faith(5, 3);
        cloth.seed(10);
        cloth.again(1);
        edges.same("the later count", 7, cloth.counted(0));
        edges.same("the later FAITH", 0, cloth.faith(5, 1));
        edges.same("the later R", 9, cloth.seed(1));
        edges.same("the other counts", 61, cloth.counted(11));
    }

    // ---- promise 50

    private void againBothSides() {
        edges.promise(50);
        int[] none = {-1, 3, 4, MIN, MAX};
        for (int i : none) {
            edges.changesNothing("again(" + i + ")", 0, c -> Edges.bit(c.again(i)));
        }
        edges.changesNothing("nothing kept under 1", 0, Edges::rich, c -> Edges.bit(c.again(1)));
        for (int i = 0; i < 3; i++) {
            int asked = i;
            edges.changesNothing("nothing kept under " + i, 0, ClothWithMan::new, c -> Edges.bit(c.again(asked)));
        }
    }

    private void againAsKept() {
        edges.promise(50);
        ClothWithMan cloth = new ClothWithMan();
        cloth.piece(0, 0, 0, 0);
        cloth.piece(0, 0, 0, 0);
        cloth.count(0, -99);
        cloth.story();
        cloth.faith(0, 0);
        cloth.woven(0);
        cloth.seed(MIN);
        cloth.keep(0);
        cloth.count(0, 1999);
        cloth.count(1, 1999);
        cloth.faith(0, 9);
        cloth.woven(199);
        cloth.seed(MAX);
        cloth.keep(2);
        for (int turn = 0; turn < 2; turn++) {
            edges.yes("the least", cloth.again(0));
            edges.same("the least count", -99, cloth.counted(0));
            edges.missing("not COUNTED then", () -> cloth.counted(1));
            edges.same("the least FAITH", 0, cloth.faith(0, 5));
            edges.same("the least YEAR", 0, cloth.woven(5));
            edges.same("the least R", MIN, cloth.seed(5));
            edges.yes("the greatest", cloth.again(2));
            edges.same("the greatest count", 1999, cloth.counted(0));
            edges.same("COUNTED then", 1999, cloth.counted(1));
            edges.same("the greatest FAITH", 9, cloth.faith(0, 5));
            edges.same("the greatest YEAR", 199, cloth.woven(5));
            edges.same("the greatest R", MAX, cloth.seed(5));
        }
    }

    private void againToldSince() {
        edges.promise(50);
        ClothWithMan cloth = new ClothWithMan();
        cloth.keep(0);
        for (int i = 0; i < 12; i++) {
            cloth.piece(0, 0, 0, 0);
            cloth.count(i, 5);
        }
        for (int i = 0; i < 6; i++) {
            cloth.story();
            cloth.faith(i, 0);
        }
        edges.yes("again", cloth.again(0));
        edges.same("none of twelve is COUNTED", 0, cloth.told(4));
        edges.same("twelve are told", 12, cloth.told(3));
        edges.same("six are told", 6, cloth.told(5));
        for (int i = 0; i < 6; i++) {
            edges.same("FAITH 1", 1, cloth.faith(i, 1));
        }
        // Kept with eleven and five.
        ClothWithMan last = new ClothWithMan();
        for (int i = 0; i < 11; i++) {
            last.piece(0, 0, 0, 0);
            last.count(i, i);
        }
        for (int i = 0; i < 5; i++) {
            last.story();
            last.faith(i, 4);
        }
        last.keep(2);
        last.piece(0, 0, 0, 0);
        last.count(11, 11);
        last.story();
        last.faith(5, 4);
        last.again(2);
        edges.same("all but the last are COUNTED", 2047, last.told(4));
        edges.missing("the last is not COUNTED", () -> last.counted(11));
        edges.same("FAITH then", 4, last.faith(4, 1));
        edges.same("FAITH of the last", 1, last.faith(5, 1));
    }

    private void againOfAllThereMayBe() {
        edges.promise(50);
        ClothWithMan cloth = Edges.full();
        cloth.keep(1);
        for (int i = 0; i < 12; i++) {
            cloth.count(i, 1000 + i);
        }
        for (int i = 0; i < 6; i++) {
            cloth.faith(i, 2 + i);
        }
        cloth.again(1);
        for (int i = 0; i < 12; i++) {
            edges.same("count of " + i, 90 + i, cloth.counted(i));
        }
        for (int i = 0; i < 6; i++) {
            edges.same("FAITH of " + i, 1, cloth.faith(i, 1));
        }
    }

    /** What is kept is counts, WOVEN, FAITH, R alone: the ROW, THE TEXT, THE CURVE and all else stay. */
    private void againLeavesTheRest() {
        edges.promise(50);
        edges.changesNothing("as it was kept", 1, () -> {
            ClothWithMan cloth = Edges.rich();
            cloth.keep(1);
            return cloth;
        }, c -> Edges.bit(c.again(1)));
        edges.changesNothing("all of it, as it was kept", 1, () -> {
            ClothWithMan cloth = Edges.full();
            cloth.keep(0);
            return cloth;
        }, c -> Edges.bit(c.again(0)));
        edges.promise(49);
        edges.changesNothing("kept once more", 1, () -> {
            ClothWithMan cloth = Edges.rich();
            cloth.keep(1);
            return cloth;
        }, c -> Edges.bit(c.keep(1)));
    }

    // ---- promise 51

    private void toldBothSides() {
        edges.promise(51);
        int[] none = {-1, 11, 12, MIN, MAX};
        for (int what : none) {
            edges.changesNothing("told(" + what + ")", -1, c -> c.told(what));
        }
        for (int what = 0; what <= 10; what++) {
            int asked = what;
            long due = what == 0 ? 1 : what == 10 ? 100 : 0;
            edges.changesNothing("told(" + what + ") of a new one", due, ClothWithMan::new, c -> c.told(asked));
        }
    }

    private void toldLeastAndGreatest() {
        edges.promise(51);
        int[] due = {2, 6, 6, 12, 4095, 6, 4, 9, 2, 80, 103};
        for (int what = 0; what < due.length; what++) {
            edges.same("told(" + what + ") of a full one", due[what], Edges.full().told(what));
        }
        ClothWithMan cloth = new ClothWithMan();
        String most = "0:1;1:2;2:3;3:4;4:5;5:6;6:7;7:8;8:9;9:0;10:0;11:0;12:0;13:0";
        edges.same("most POINTS", 14, Check.curve(cloth, most));
        edges.same("most POINTS", 14, cloth.told(0));
        cloth.piece(0, 0, 0, 0);
        cloth.piece(0, 0, 0, 0);
        cloth.count(1, 0);
        edges.same("COUNTED as 0", 2, cloth.told(4));
        cloth.count(0, -1);
        edges.same("COUNTED as -1", 3, cloth.told(4));
        cloth.woven(0);
        edges.same("WOVEN in the first YEAR", 0, cloth.told(10));
        cloth.woven(199);
        edges.same("WOVEN in the last YEAR", 199, cloth.told(10));
        cloth.years(MAX, 1);
        edges.same("an empty ROW", 0, cloth.told(8));
    }

    // ---- promise 52

    private void rowBothSides() {
        edges.promise(52);
        int[] none = {-1, 20, 21, MIN, MAX};
        for (int i : none) {
            edges.changesNothing("row(" + i + ")", Edges.THROWN, c -> c.row(i));
        }
        edges.changesNothing("the first of none", Edges.THROWN, ClothWithMan::new, c -> c.row(0));
        edges.changesNothing("one behind the last of two", Edges.THROWN, Edges::rich, c -> c.row(2));
        ClothWithMan cloth = new ClothWithMan();
        Check.curve(cloth, "0:0;2:9;4:0;6:9;8:0;10:9;12:0;14:9;16:0;18:9;20:0;22:9");
        cloth.years(4, 1);
        edges.same("the most numbers", 20, cloth.told(8));
        edges.same("the last of the most", 19, cloth.row(19));
        edges.missing("one behind it", () -> cloth.row(20));
        cloth.must(0, 0, MIN);
        edges.same("a number above all ints", 1L << 31, cloth.row(0));
        edges.missing("one behind it", () -> cloth.row(1));
    }

    private void rowStaysAndIsToldAnew() {
        edges.promise(52);
        ClothWithMan cloth = Edges.rich();
        long upper = cloth.row(0);
        long lower = cloth.row(1);
        cloth.value(5);
        cloth.thread(0, 0, 0);
        cloth.likeness(5, 5, 5);
        cloth.truth(0);
        cloth.draw(6);
        cloth.when(0, 1);
        cloth.would(0, 0, 5);
        cloth.younger(0, 5, 300);
        cloth.house(0, 0, 7);
        cloth.sheet(3, 0, 0, 0);
        cloth.keep(0);
        cloth.again(2);
        cloth.curve();
        cloth.story();
        edges.same("calls that tell none leave it", upper, cloth.row(0));
        edges.same("calls that tell none leave it", lower, cloth.row(1));
        edges.same("calls that tell none leave it", 2, cloth.told(8));
        cloth.needs(1);
        edges.same("told anew, shorter", 1, cloth.told(8));
        cloth.years(0, 1);
        cloth.parts(0, 5);
        edges.yes("told anew, by a pair or none", cloth.told(8) == 2 || cloth.told(8) == 0);
        cloth.slope(3);
        edges.same("a fraction", 2, cloth.told(8));
        cloth.where(5);
        edges.same("x, y, WAY, HOUSE", 4, cloth.told(8));
        cloth.count(0, cloth.would(0, 0, 50));
        edges.yes("odds", cloth.odds(1) >= 0);
        edges.same("two for each STORY", 2 * cloth.told(5), cloth.told(8));
    }

    // ---- what it is: at most 512 calls

    private void fiveHundredAndTwelveCalls() {
        edges.promise(51);
        ClothWithMan cloth = new ClothWithMan();
        for (int call = 0; call < 256; call++) {
            edges.same("woven", call == 0 ? 100 : (call - 1) % 200, cloth.woven(call % 200));
            edges.same("told", call % 200, cloth.told(10));
        }
        ClothWithMan signs = new ClothWithMan();
        for (int call = 0; call < 511; call += 7) {
            signs.sign(0x303a3530);
            signs.sign(0x303a3530);
            signs.end(3);
            edges.same("curve", 1, signs.curve());
            edges.same("a STORY or none", call < 42 ? call / 7 : -100, signs.story());
            signs.piece(0, 0, 0, 0);
            edges.same("seed", call == 0 ? 1 : call - 7, signs.seed(call));
        }
        edges.same("the 512th", 12, signs.told(3));
    }
}
