/** Promises 41 to 47: hidden pieces, hows of an image, who wanted it. */
public final class HiddenTest {
    private static final int MIN = Integer.MIN_VALUE;

    private final Check check = new Check("HiddenTest");

    public static void main(String[] args) {
        HiddenTest test = new HiddenTest();
        test.likes();
        test.knew();
        test.hows();
        test.opens();
        test.looks();
        test.marksRefused();
        test.wants();
        test.omits();
        test.omitsPieces();
        test.check.close();
    }

    private void likes() {
        ClothWithMan cloth = new ClothWithMan();
        check.same("like: no such weave", -1, cloth.like(-1));
        check.same("like: no such weave", -1, cloth.like(6));
        check.same("likes", 0, cloth.told(7));
        for (int n = 1; n <= 9; n++) {
            check.same("like", n, cloth.like(n % 2 * 5));
        }
        check.same("like: 9", -1, cloth.like(0));
        check.same("likes", 9, cloth.told(7));
    }

    private void knew() {
        ClothWithMan cloth = new ClothWithMan();
        check.rowed("knew: no likes", cloth, 0, cloth.knew(0, 0), 1, 1);
        check.same("knew: more than all", -1, cloth.knew(0, 1));
        cloth.like(2);
        cloth.like(2);
        cloth.like(3);
        cloth.like(4);
        cloth.like(4);
        cloth.like(4);
        check.rowed("knew: with none", cloth, 0, cloth.knew(2, 0), 1, 1);
        check.rowed("knew: with one", cloth, 0, cloth.knew(2, 1), 2, 3);
        check.rowed("knew: with two", cloth, 0, cloth.knew(2, 2), 2, 5);
        check.rowed("knew: with four", cloth, 0, cloth.knew(2, 4), 1, 15);
        check.rowed("knew: with five", cloth, 0, cloth.knew(2, 5), 0, 1);
        check.rowed("knew: with all", cloth, 0, cloth.knew(2, 6), 0, 1);
        check.rowed("knew: half of them", cloth, 0, cloth.knew(4, 3), 1, 20);
        check.rowed("knew: none like it", cloth, 0, cloth.knew(0, 6), 1, 1);
        check.same("knew: no such weave", -1, cloth.knew(6, 1));
        check.same("knew: no such weave", -1, cloth.knew(-1, 1));
        check.same("knew: below 0", -1, cloth.knew(2, -1));
        check.same("knew: more than all", -1, cloth.knew(2, 7));
        check.row("knew: the row stays", cloth, 1, 1);
        cloth.like(0);
        cloth.like(0);
        cloth.like(0);
        check.rowed("knew: of nine", cloth, 0, cloth.knew(3, 4), 5, 9);
        check.rowed("knew: the last weave", cloth, 0, cloth.knew(5, 9), 1, 1);
    }

    private void hows() {
        ClothWithMan cloth = new ClothWithMan();
        check.yes("how", cloth.how(7, 255, 0));
        check.yes("how", cloth.how(0, 0, 255));
        int[][] refused = {
            {-1, 1, 2}, {8, 1, 2}, {0, -1, 2}, {0, 256, 2}, {0, 1, -1}, {0, 1, 256}, {0, 3, 6}, {0, 255, 255},
        };
        for (int[] r : refused) {
            check.no("how refused", cloth.how(r[0], r[1], r[2]));
        }
        check.same("hows: refused ones change nothing", 128 + 1, cloth.open(0, 0));
        check.same("hows: refused ones change nothing", 128, cloth.open(4, 0));
        check.yes("how: told anew", cloth.how(0, 0, 0));
        check.same("hows: told anew", 128 + 1, cloth.open(4, 0));
    }

    private void opens() {
        ClothWithMan cloth = new ClothWithMan();
        check.rowed("open: no hows", cloth, 0, cloth.open(0, 255), 0);
        cloth.how(1, 3, 4);
        cloth.how(3, 0, 0);
        cloth.how(5, 1, 0);
        cloth.how(6, 0, 1);
        cloth.how(0, 16, 32);
        check.rowed("open: the first how", cloth, 1 + 2 + 8 + 32 + 64, cloth.open(16, 32), 1 + 8);
        cloth.how(0, 24, 32);
        check.rowed("open: none is known that asks more", cloth, 1 + 2 + 8 + 32 + 64, cloth.open(16, 32), 8);
        cloth.how(0, 255, 0);
        check.rowed("open: nothing known", cloth, 1 + 2 + 8 + 32 + 64, cloth.open(0, 0), 8);
        check.rowed("open: a mark is", cloth, 1 + 2 + 8 + 32, cloth.open(1, 0), 8 + 32);
        check.rowed("open: a mark is not", cloth, 8 + 64, cloth.open(0, 1), 8 + 64);
        check.rowed("open: two are", cloth, 1 + 2 + 8 + 32, cloth.open(3, 0), 8 + 32);
        check.rowed("open: all it asks", cloth, 2 + 8 + 32, cloth.open(3, 4), 2 + 8 + 32);
        check.rowed("open: a barred one is", cloth, 1 + 8 + 32, cloth.open(7, 0), 8 + 32);
        check.rowed("open: a needed one is not", cloth, 8 + 32, cloth.open(1, 6), 8 + 32);
        check.rowed("open: marks of none", cloth, 2 + 8 + 32 + 64, cloth.open(128, 120), 8);
    }

    private void looks() {
        ClothWithMan cloth = new ClothWithMan();
        check.rowed("look: no hows", cloth, 0, cloth.look(0, 0), 0);
        check.rowed("look: the first not known", cloth, 2, cloth.look(1, 2), 0);
        cloth.how(0, 1, 0);
        cloth.how(1, 4, 1);
        cloth.how(2, 4, 8);
        cloth.how(3, 8, 4);
        // Mark 0 leaves 3 either way; mark 2: is 3, is not 2; mark 3: is 3, is not 3.
        check.rowed("look: of equal ones the first", cloth, 0, cloth.look(0, 0), 3);
        check.rowed("look: one known", cloth, 2, cloth.look(1, 0), 2);
        check.rowed("look: one known not", cloth, 2, cloth.look(0, 1), 2);
        check.rowed("look: at worst", cloth, 1, cloth.look(4, 1), 2);
        check.rowed("look: one left", cloth, 7, cloth.look(127, 0), 1);
        check.same("look: all are known", -2, cloth.look(255, 0));
        check.same("look: all are known", -2, cloth.look(0, 255));
        check.same("look: all are known", -2, cloth.look(15, 240));
        check.row("look: the row stays", cloth, 1);
    }

    private void marksRefused() {
        ClothWithMan cloth = new ClothWithMan();
        cloth.open(0, 0);
        int[][] none = {{-1, 0}, {256, 0}, {0, -1}, {0, 256}, {1, 1}, {255, 128}, {MIN, 0}, {0, MIN}};
        for (int[] n : none) {
            check.same("open: none such", -1, cloth.open(n[0], n[1]));
            check.same("look: none such", -1, cloth.look(n[0], n[1]));
        }
        check.row("the row stays", cloth, 0);
    }

    private void wants() {
        ClothWithMan cloth = new ClothWithMan();
        check.no("wanted: no story", cloth.wanted(0, 0, 0, 0));
        Check.story(cloth, "w1");
        int[][] refused = {
            {-1, 0, 0, 0}, {8, 0, 0, 0}, {0, -1, 0, 0}, {0, 1, 0, 0}, {0, 0, -1, 0}, {0, 0, 16, 0},
            {0, 0, 0, -1}, {0, 0, 0, 4096}, {MIN, 0, 0, 0}, {0, MIN, 0, 0}, {0, 0, MIN, 0}, {0, 0, 0, MIN},
        };
        for (int[] r : refused) {
            check.no("wanted refused", cloth.wanted(r[0], r[1], r[2], r[3]));
        }
        check.same("omits: refused ones are not told", -1, cloth.omits(0));
        check.yes("wanted", cloth.wanted(0, 0, 15, 4095));
        check.yes("wanted", cloth.wanted(7, 0, 0, 0));
        check.rowed("omits: nothing to say", cloth, 0, cloth.omits(7), 0, 0);
        check.same("omits: not told", -1, cloth.omits(6));
        check.same("omits: none such", -1, cloth.omits(8));
        check.same("omits: none such", -1, cloth.omits(-1));
        check.row("omits: the row stays", cloth, 0, 0);
    }

    private void omits() {
        ClothWithMan cloth = new ClothWithMan();
        Check.story(cloth, "");
        Check.story(cloth, "w150");
        cloth.paper(100, true, 6);
        cloth.paper(100, true, 5);
        cloth.paper(100, false, 6);
        cloth.paper(100, false, 4);
        cloth.wanted(0, 0, 0, 0);
        cloth.wanted(1, 1, 0, 0);
        // Woven in 100: 6 5 4 6. In 150: 4 5 6 4.
        check.rowed("omits: by woven", cloth, 1, cloth.omits(0), 4, 0);
        check.rowed("omits: by w", cloth, 2, cloth.omits(1), 1 + 8, 0);
        cloth.woven(101);
        check.rowed("omits: by woven now", cloth, 2, cloth.omits(0), 1 + 8, 0);
        check.rowed("omits: by w", cloth, 2, cloth.omits(1), 1 + 8, 0);
        cloth.wanted(0, 0, 8 + 2, 4095);
        check.rowed("omits: what is not said", cloth, 1, cloth.omits(0), 1, 0);
        cloth.wanted(0, 1, 15, 0);
        check.rowed("omits: told anew", cloth, 0, cloth.omits(0), 0, 0);
    }

    private void omitsPieces() {
        ClothWithMan cloth = new ClothWithMan();
        Check.curve(cloth, "0:0;199:199");
        Check.story(cloth, "");
        Check.story(cloth, "w150;h1,30");
        for (int i = 0; i < 5; i++) {
            cloth.piece(i, 0, 0, i % 2);
        }
        cloth.house(1, 10, 10);
        cloth.count(0, 140);
        cloth.count(1, 129);
        cloth.count(2, 139);
        cloth.count(3, 130);
        cloth.wanted(0, 0, 0, 0);
        cloth.wanted(1, 1, 0, 0);
        cloth.wanted(2, 0, 0, 1 + 2 + 16);
        // Woven in 100: 100 by span 20, 110 by span 10: 40, 19, 39, 20 apart: 14 32 32 14.
        check.rowed("omits: pieces", cloth, 2, cloth.omits(0), 0, 1 + 8);
        // In 150: 150 by span 20, 190 by span 10: 10, 61, 11, 60 apart.
        check.rowed("omits: pieces by w and h", cloth, 2, cloth.omits(1), 0, 2 + 8);
        check.rowed("omits: what is not said", cloth, 1, cloth.omits(2), 0, 8);
        cloth.woven(199);
        check.rowed("omits: all counted ones", cloth, 4, cloth.omits(0), 0, 15);
        cloth.count(4, 0);
        check.rowed("omits: one more", cloth, 5, cloth.omits(0), 0, 31);
        check.rowed("omits: said ahead of it", cloth, 2, cloth.omits(2), 0, 4 + 8);
        cloth.paper(0, true, 9);
        check.rowed("omits: both", cloth, 6, cloth.omits(0), 1, 31);
    }
}
