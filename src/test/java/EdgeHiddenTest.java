/** The boundary cases of promises 41 to 47: hidden pieces, hows of an image, who wanted it. */
public final class EdgeHiddenTest {
    private static final int MIN = Edges.MIN;
    private static final int MAX = Edges.MAX;

    private final Edges edges = new Edges("EdgeHiddenTest", 41, 47);

    public static void main(String[] args) {
        EdgeHiddenTest test = new EdgeHiddenTest();
        test.likeBothSides();
        test.likesAreNine();
        test.knewOfNone();
        test.knewNoneAndAll();
        test.knewRefused();
        test.howBothSides();
        test.howRefused();
        test.openOfNoneAndOfEight();
        test.openNeedsAndBars();
        test.lookFirstAndLastMark();
        test.lookAllKnown();
        test.lookOfEqualOnes();
        test.marksRefused();
        test.wantedBothSides();
        test.wantedRefused();
        test.omitsFits();
        test.omitsLikenesses();
        test.omitsNoneAndAll();
        test.omitsRefused();
        test.edges.close();
    }

    // ---- promise 41

    private void likeBothSides() {
        edges.promise(41);
        for (int weave = 0; weave < 6; weave++) {
            ClothWithMan cloth = new ClothWithMan();
            edges.same("the first of weave " + weave, 1, cloth.like(weave));
            edges.same("the next", 2, cloth.like(weave));
            edges.rowed("it is of that weave", cloth, 0, cloth.knew(weave, 1), 0, 1);
        }
        int[] none = {-1, 6, MIN, MAX};
        for (int weave : none) {
            edges.changesNothing("weave " + weave, -1, c -> c.like(weave));
        }
    }

    private void likesAreNine() {
        edges.promise(41);
        ClothWithMan cloth = new ClothWithMan();
        for (int n = 1; n <= 9; n++) {
            edges.same("how many", n, cloth.like(n % 6));
            edges.same("how many", n, cloth.told(7));
        }
        ClothWithMan alike = new ClothWithMan();
        for (int n = 1; n <= 9; n++) {
            edges.same("how many of one weave", n, alike.like(5));
        }
        edges.same("a tenth", -1, alike.like(5));
        edges.same("a tenth of another", -1, alike.like(0));
        for (int weave = 0; weave < 6; weave++) {
            int asked = weave;
            edges.changesNothing("a tenth", -1, Edges::full, c -> c.like(asked));
        }
    }

    // ---- promise 42

    private void knewOfNone() {
        edges.promise(42);
        ClothWithMan cloth = new ClothWithMan();
        for (int weave = 0; weave < 6; weave++) {
            edges.rowed("with none of none", cloth, 0, cloth.knew(weave, 0), 1, 1);
            edges.same("with one of none", -1, cloth.knew(weave, 1));
        }
    }

    private void knewNoneAndAll() {
        edges.promise(42);
        ClothWithMan cloth = new ClothWithMan();
        for (int n = 0; n < 8; n++) {
            cloth.like(1);
        }
        cloth.like(4);
        edges.rowed("with none", cloth, 0, cloth.knew(1, 0), 1, 1);
        edges.rowed("with one, all but one have it", cloth, 0, cloth.knew(1, 1), 1, 9);
        edges.rowed("with two", cloth, 0, cloth.knew(1, 2), 0, 1);
        edges.rowed("with all nine", cloth, 0, cloth.knew(1, 9), 0, 1);
        edges.rowed("one has it, with one", cloth, 0, cloth.knew(4, 1), 8, 9);
        edges.rowed("one has it, with eight", cloth, 0, cloth.knew(4, 8), 1, 9);
        edges.rowed("one has it, with nine", cloth, 0, cloth.knew(4, 9), 0, 1);
        edges.rowed("none has it, with nine", cloth, 0, cloth.knew(0, 9), 1, 1);
        edges.rowed("none has it, with nine", cloth, 0, cloth.knew(5, 9), 1, 1);
        ClothWithMan half = new ClothWithMan();
        for (int n = 0; n < 9; n++) {
            half.like(n % 2);
        }
        // 5 of weave 0, 4 of 1: 5 4 3 2 by 9 8 7 6; 4 3 2 1 by these.
        edges.rowed("as many as lack it", half, 0, half.knew(1, 5), 1, 126);
        edges.rowed("one fewer", half, 0, half.knew(1, 4), 5, 126);
        edges.rowed("one more", half, 0, half.knew(1, 6), 0, 1);
        edges.rowed("as many as lack the other", half, 0, half.knew(0, 4), 1, 126);
        edges.rowed("one more", half, 0, half.knew(0, 5), 0, 1);
    }

    private void knewRefused() {
        edges.promise(42);
        int[] none = {-1, 6, MIN, MAX};
        for (int weave : none) {
            edges.changesNothing("weave " + weave, -1, c -> c.knew(weave, 0));
        }
        int[] noK = {-1, 10, MIN, MAX};
        for (int k : noK) {
            edges.changesNothing("k " + k, -1, c -> c.knew(0, k));
        }
        edges.changesNothing("one more than all", -1, Edges::rich, c -> c.knew(1, 4));
        edges.changesNothing("one more than none", -1, ClothWithMan::new, c -> c.knew(1, 1));
        edges.same("all", 0, Edges.rich().knew(1, 3));
        edges.same("all nine", 0, Edges.full().knew(1, 9));
    }

    // ---- promise 43

    private void howBothSides() {
        edges.promise(43);
        for (int how = 0; how < 8; how++) {
            ClothWithMan cloth = new ClothWithMan();
            edges.yes("needs all", cloth.how(how, 255, 0));
            edges.rowed("needs all", cloth, 1 << how, cloth.open(255, 0), 1 << how);
            edges.rowed("needs all", cloth, 0, cloth.open(127, 128), 0);
            edges.yes("bars all, told anew", cloth.how(how, 0, 255));
            edges.rowed("bars all", cloth, 1 << how, cloth.open(0, 255), 1 << how);
            edges.rowed("bars all", cloth, 0, cloth.open(128, 127), 0);
            edges.yes("neither, told anew", cloth.how(how, 0, 0));
            edges.rowed("neither", cloth, 1 << how, cloth.open(128, 127), 1 << how);
            edges.yes("all one or the other", cloth.how(how, 170, 85));
            edges.rowed("all one or the other", cloth, 1 << how, cloth.open(170, 85), 1 << how);
        }
    }

    private void howRefused() {
        edges.promise(43);
        int[][] refused = {
            {-1, 0, 0}, {8, 0, 0}, {MIN, 0, 0}, {MAX, 0, 0}, {0, -1, 0}, {0, 256, 0}, {0, MIN, 0}, {0, MAX, 0},
            {0, 0, -1}, {0, 0, 256}, {0, 0, MIN}, {0, 0, MAX}, {7, 256, 256}, {0, 1, 1}, {7, 128, 128}, {0, 255, 1},
            {0, 128, 255}, {3, 255, 255}, {3, 6, 12},
        };
        for (int[] r : refused) {
            edges.changesNothing("how(" + r[0] + ", " + r[1] + ", " + r[2] + ")", 0,
                    c -> Edges.bit(c.how(r[0], r[1], r[2])));
        }
        edges.yes("no MARK both", new ClothWithMan().how(3, 6, 8));
    }

    // ---- promise 44

    private void openOfNoneAndOfEight() {
        edges.promise(44);
        ClothWithMan cloth = new ClothWithMan();
        edges.rowed("none told", cloth, 0, cloth.open(0, 0), 0);
        edges.rowed("none told, all known", cloth, 0, cloth.open(255, 0), 0);
        for (int how = 0; how < 8; how++) {
            cloth.how(how, 0, 0);
        }
        edges.rowed("eight told", cloth, 255, cloth.open(0, 0), 255);
        edges.rowed("eight told, all known not", cloth, 255, cloth.open(0, 255), 255);
    }

    private void openNeedsAndBars() {
        edges.promise(44);
        for (int mark = 0; mark < 8; mark++) {
            int bit = 1 << mark;
            ClothWithMan cloth = new ClothWithMan();
            cloth.how(0, bit, 0);
            cloth.how(7, 0, bit);
            cloth.how(3, 255 & ~bit, bit);
            edges.rowed("nothing known", cloth, 128 + 8 + 1, cloth.open(0, 0), 0);
            edges.rowed("it is", cloth, 1, cloth.open(bit, 0), 1);
            edges.rowed("it is not", cloth, 128 + 8, cloth.open(0, bit), 128);
            edges.rowed("all others are", cloth, 128 + 8 + 1, cloth.open(255 & ~bit, 0), 0);
            edges.rowed("all others are, it is not", cloth, 128 + 8, cloth.open(255 & ~bit, bit), 128 + 8);
            edges.rowed("all others are not", cloth, 128 + 1, cloth.open(0, 255 & ~bit), 0);
        }
    }

    // ---- promise 45

    private void lookFirstAndLastMark() {
        edges.promise(45);
        ClothWithMan cloth = new ClothWithMan();
        edges.rowed("no HOWS", cloth, 0, cloth.look(0, 0), 0);
        for (int mark = 0; mark < 8; mark++) {
            edges.rowed("one is left", cloth, mark, cloth.look(255 & ~(1 << mark), 0), 0);
            edges.rowed("one is left", cloth, mark, cloth.look(0, 255 & ~(1 << mark)), 0);
        }
        cloth.how(0, 128, 0);
        cloth.how(7, 0, 128);
        edges.rowed("the last MARK", cloth, 7, cloth.look(0, 0), 1);
        for (int how = 0; how < 8; how++) {
            cloth.how(how, 0, 0);
        }
        edges.rowed("eight stay open", cloth, 0, cloth.look(0, 0), 8);
        edges.rowed("eight stay open", cloth, 7, cloth.look(127, 0), 8);
    }

    private void lookAllKnown() {
        edges.promise(45);
        int[][] all = {{255, 0}, {0, 255}, {170, 85}, {1, 254}, {127, 128}};
        for (int[] a : all) {
            edges.changesNothing("all are known", -2, c -> c.look(a[0], a[1]));
        }
    }

    private void lookOfEqualOnes() {
        edges.promise(45);
        ClothWithMan cloth = new ClothWithMan();
        cloth.how(0, 2, 0);
        cloth.how(1, 0, 2);
        cloth.how(2, 4, 0);
        cloth.how(3, 0, 4);
        edges.rowed("the first of two", cloth, 1, cloth.look(0, 0), 3);
        edges.rowed("the next, where that is known", cloth, 2, cloth.look(2, 0), 2);
        edges.rowed("where both are known", cloth, 0, cloth.look(2, 4), 2);
        cloth.how(4, 4, 0);
        // Mark 1: 4 either way; mark 2: it is: 4, it is not: 3.
        edges.rowed("at worst", cloth, 1, cloth.look(0, 0), 4);
        cloth.how(5, 0, 4);
        cloth.how(6, 0, 2);
        edges.rowed("at worst", cloth, 2, cloth.look(0, 0), 5);
    }

    private void marksRefused() {
        int[][] refused = {
            {-1, 0}, {256, 0}, {0, -1}, {0, 256}, {256, 256}, {1, 1}, {128, 128}, {255, 1}, {128, 255}, {255, 255},
            {MIN, 0}, {MAX, 0}, {0, MIN}, {0, MAX}, {-1, -1},
        };
        for (int[] r : refused) {
            edges.promise(44);
            edges.changesNothing("open(" + r[0] + ", " + r[1] + ")", -1, c -> c.open(r[0], r[1]));
            edges.promise(45);
            edges.changesNothing("look(" + r[0] + ", " + r[1] + ")", -1, c -> c.look(r[0], r[1]));
        }
    }

    // ---- promise 46

    private void wantedBothSides() {
        edges.promise(46);
        ClothWithMan cloth = new ClothWithMan();
        for (int story = 0; story < 6; story++) {
            cloth.story();
        }
        for (int person = 0; person < 8; person++) {
            edges.same("not told", -1, cloth.omits(person));
            edges.yes("the least", cloth.wanted(person, 0, 0, 0));
            edges.rowed("told", cloth, 0, cloth.omits(person), 0, 0);
            edges.yes("the greatest", cloth.wanted(person, 5, 15, 4095));
        }
    }

    private void wantedRefused() {
        edges.promise(46);
        int[][] refused = {
            {-1, 0, 0, 0}, {8, 0, 0, 0}, {MIN, 0, 0, 0}, {MAX, 0, 0, 0}, {0, -1, 0, 0}, {0, 6, 0, 0}, {0, MIN, 0, 0},
            {0, MAX, 0, 0}, {0, 0, -1, 0}, {0, 0, 16, 0}, {0, 0, MIN, 0}, {0, 0, MAX, 0}, {0, 0, 0, -1},
            {0, 0, 0, 4096}, {0, 0, 0, MIN}, {0, 0, 0, MAX},
        };
        for (int[] r : refused) {
            edges.changesNothing("wanted(" + r[0] + ", " + r[1] + ", " + r[2] + ", " + r[3] + ")", 0,
                    c -> Edges.bit(c.wanted(r[0], r[1], r[2], r[3])));
        }
        edges.changesNothing("no STORIES", 0, ClothWithMan::new, c -> Edges.bit(c.wanted(0, 0, 0, 0)));
        edges.changesNothing("one behind the last", 0, Edges::rich, c -> Edges.bit(c.wanted(0, 3, 0, 0)));
        edges.yes("the last", Edges.rich().wanted(0, 2, 0, 0));
    }

    // ---- promise 47

    private static ClothWithMan wanting(String text) {
        ClothWithMan cloth = new ClothWithMan();
        Check.curve(cloth, "0:0;199:199");
        Check.story(cloth, text);
        cloth.wanted(0, 0, 0, 0);
        return cloth;
    }

    private void omitsFits() {
        edges.promise(47);
        String[] texts = {"", "w100"};
        for (String text : texts) {
            int[][] papers = {{100, 1, 5}, {100, 1, 4}, {100, 0, 5}, {100, 0, 6}, {99, 1, 6}, {99, 0, 4}};
            int[] tells = {0, 1, 0, 1, 1, 1};
            for (int i = 0; i < papers.length; i++) {
                ClothWithMan cloth = wanting(text);
                cloth.paper(papers[i][0], papers[i][1] == 1, papers[i][2]);
                edges.rowed("FIT below 5 " + i, cloth, tells[i], cloth.omits(0), tells[i], 0);
            }
        }
        ClothWithMan cloth = wanting("");
        cloth.paper(100, true, 9);
        edges.rowed("woven in its YEAR", cloth, 0, cloth.omits(0), 0, 0);
        cloth.woven(101);
        edges.rowed("woven later", cloth, 1, cloth.omits(0), 1, 0);
        ClothWithMan own = wanting("w100");
        own.paper(100, true, 9);
        own.woven(101);
        edges.rowed("w, whatever it is woven in", own, 0, own.omits(0), 0, 0);
    }

    private void omitsLikenesses() {
        edges.promise(47);
        ClothWithMan cloth = wanting("w100");
        cloth.house(0, 0, 10);
        cloth.piece(0, 0, 0, 0);
        edges.rowed("not COUNTED", cloth, 0, cloth.omits(0), 0, 0);
        int[][] due = {{119, 0}, {120, 1}, {81, 0}, {80, 1}, {100, 0}, {-99, 1}, {1999, 1}};
        for (int[] d : due) {
            cloth.count(0, d[0]);
            edges.rowed("LIKENESS below 32, " + d[0], cloth, d[1], cloth.omits(0), 0, d[1]);
        }
        cloth.house(0, 50, 10);
        cloth.count(0, 169);
        edges.rowed("with its SLIP", cloth, 0, cloth.omits(0), 0, 0);
        cloth.count(0, 170);
        edges.rowed("one more", cloth, 1, cloth.omits(0), 0, 1);
    }

    private void omitsNoneAndAll() {
        edges.promise(47);
        ClothWithMan cloth = wanting("w100");
        edges.rowed("nothing told", cloth, 0, cloth.omits(0), 0, 0);
        for (int i = 0; i < 4; i++) {
            cloth.paper(50, true, 9);
        }
        for (int i = 0; i < 12; i++) {
            cloth.piece(0, 0, 0, 0);
            cloth.count(i, 1999);
        }
        edges.rowed("all told", cloth, 16, cloth.omits(0), 15, 4095);
        cloth.wanted(0, 0, 15, 4095);
        edges.rowed("all said", cloth, 0, cloth.omits(0), 0, 0);
        cloth.wanted(0, 0, 8, 2048);
        edges.rowed("the last said", cloth, 14, cloth.omits(0), 7, 2047);
        cloth.wanted(0, 0, 7, 2047);
        edges.rowed("the last not said", cloth, 2, cloth.omits(0), 8, 2048);
    }

    private void omitsRefused() {
        edges.promise(47);
        int[] none = {-1, 8, MIN, MAX};
        for (int person : none) {
            edges.changesNothing("PERSON " + person, -1, c -> c.omits(person));
        }
        int[] untold = {1, 2, 3, 4, 6, 7};
        for (int person : untold) {
            edges.changesNothing("not told " + person, -1, Edges::rich, c -> c.omits(person));
        }
        edges.changesNothing("no one told", -1, ClothWithMan::new, c -> c.omits(0));
        edges.changesNothing("no one told", -1, ClothWithMan::new, c -> c.omits(7));
    }
}
