/** Promises 48 to 52: R, what is kept, what is told, the ROW. */
public final class KeptTest {
    private static final int MIN = Integer.MIN_VALUE;

    private final Check check = new Check("KeptTest");

    public static void main(String[] args) {
        KeptTest test = new KeptTest();
        test.seeds();
        test.keepAndAgain();
        test.toldSince();
        test.whatIsNotKept();
        test.refused();
        test.told();
        test.rows();
        test.check.close();
    }

    private void seeds() {
        ClothWithMan cloth = new ClothWithMan();
        check.same("seed", 1, cloth.seed(MIN));
        check.same("seed", MIN, cloth.seed(-1));
        check.same("seed: -1 is what it was", -1, cloth.seed(0));
        check.same("seed", 0, cloth.seed(5));
    }

    private void keepAndAgain() {
        ClothWithMan cloth = new ClothWithMan();
        cloth.piece(0, 0, 0, 0);
        cloth.piece(1, 0, 0, 0);
        cloth.count(0, 77);
        Check.story(cloth, "w1");
        cloth.faith(0, 4);
        cloth.woven(33);
        cloth.seed(99);
        check.yes("keep", cloth.keep(2));
        cloth.count(0, 78);
        cloth.count(1, 79);
        cloth.faith(0, 5);
        cloth.woven(34);
        cloth.seed(100);
        check.yes("keep: another", cloth.keep(0));
        for (int turn = 0; turn < 2; turn++) {
            check.yes("again", cloth.again(2));
            check.same("again: counted", 77, cloth.counted(0));
            check.missing("again: not counted", () -> cloth.counted(1));
            check.same("again: bits", 1, cloth.told(4));
            check.same("again: woven", 33, cloth.woven(35));
            check.same("again: faith", 4, cloth.faith(0, 6));
            check.same("again: R", 99, cloth.seed(101));
            cloth.count(0, 80);
            check.yes("again: another", cloth.again(0));
            check.same("again: counted", 78, cloth.counted(0));
            check.same("again: counted", 79, cloth.counted(1));
            check.same("again: woven", 34, cloth.told(10));
            check.same("again: faith", 5, cloth.faith(0, 5));
            check.same("again: R", 100, cloth.seed(100));
        }
        cloth.woven(36);
        check.yes("keep: anew", cloth.keep(2));
        cloth.woven(37);
        check.yes("again", cloth.again(2));
        check.same("again: as kept last", 36, cloth.told(10));
        check.same("again: as kept last", 78, cloth.counted(0));
    }

    private void toldSince() {
        ClothWithMan cloth = new ClothWithMan();
        check.yes("keep: nothing told", cloth.keep(1));
        for (int i = 0; i < 12; i++) {
            cloth.piece(0, 0, 0, 0);
            cloth.count(i, i);
        }
        for (int i = 0; i < 6; i++) {
            Check.story(cloth, "");
            cloth.faith(i, 9);
        }
        check.yes("again", cloth.again(1));
        check.same("again: pieces are still told", 12, cloth.told(3));
        check.same("again: not counted", 0, cloth.told(4));
        check.missing("again: not counted", () -> cloth.counted(11));
        for (int i = 0; i < 6; i++) {
            check.same("again: faith 1", 1, cloth.faith(i, 2));
        }
    }

    private void whatIsNotKept() {
        ClothWithMan cloth = new ClothWithMan();
        cloth.keep(0);
        Check.curve(cloth, "1:1;2:2");
        cloth.house(0, 5, 5);
        cloth.way(0, 6);
        cloth.mend(0, 0, 1, 1, 1);
        cloth.stuff(0, 0, 1, 1, 1, 1);
        cloth.paper(1, true, 1);
        cloth.like(1);
        cloth.how(0, 1, 2);
        Check.story(cloth, "w1");
        cloth.wanted(0, 0, 0, 0);
        cloth.needs(0);
        cloth.sign(0);
        cloth.again(0);
        int[] due = {2, 1, 1, 0, 0, 1, 1, 1, 1, 4, 100};
        for (int what = 0; what < due.length; what++) {
            check.same("again: told(" + what + ")", due[what], cloth.told(what));
        }
        check.same("again: way", 6, cloth.way(0, 0));
        check.same("again: how", 1, cloth.open(0, 0));
        check.same("again: wanted", 1, cloth.omits(0));
    }

    private void refused() {
        ClothWithMan cloth = new ClothWithMan();
        int[] none = {-1, 3, MIN, Integer.MAX_VALUE};
        for (int i : none) {
            check.no("keep: none such", cloth.keep(i));
            check.no("again: none such", cloth.again(i));
        }
        for (int i = 0; i < 3; i++) {
            check.no("again: nothing kept", cloth.again(i));
        }
        cloth.woven(5);
        check.yes("keep", cloth.keep(1));
        cloth.woven(6);
        check.no("again: nothing kept", cloth.again(0));
        check.no("again: nothing kept", cloth.again(2));
        check.same("again: refused changes nothing", 6, cloth.told(10));
    }

    private void told() {
        ClothWithMan cloth = new ClothWithMan();
        Check.curve(cloth, "1:1;2:2;3:3");
        cloth.mend(0, 0, 1, 1, 1);
        cloth.mend(0, 0, 1, 1, 1);
        cloth.stuff(0, 0, 1, 1, 1, 1);
        for (int i = 0; i < 5; i++) {
            cloth.piece(0, 0, 0, 0);
        }
        cloth.count(1, 1);
        cloth.draw(4);
        for (int i = 0; i < 4; i++) {
            Check.story(cloth, "");
        }
        cloth.paper(1, true, 1);
        cloth.paper(1, true, 1);
        cloth.paper(1, true, 1);
        for (int i = 0; i < 6; i++) {
            cloth.like(0);
        }
        cloth.likely(2);
        cloth.sign(0);
        cloth.sign(0);
        cloth.end(7);
        cloth.woven(123);
        int[] due = {3, 2, 1, 5, 18, 4, 3, 6, 2, 7, 123};
        for (int what = 0; what < due.length; what++) {
            check.same("told(" + what + ")", due[what], cloth.told(what));
        }
        int[] none = {-1, 11, MIN, Integer.MAX_VALUE};
        for (int what : none) {
            check.same("told: another what", -1, cloth.told(what));
        }
    }

    private void rows() {
        ClothWithMan cloth = new ClothWithMan();
        check.missing("row: nothing told", () -> cloth.row(0));
        check.missing("row: below 0", () -> cloth.row(-1));
        cloth.years(0, 1);
        check.same("row", 0, cloth.row(0));
        check.same("row", 199, cloth.row(1));
        check.missing("row: none such", () -> cloth.row(2));
        check.missing("row: none such", () -> cloth.row(-1));
        check.missing("row: none such", () -> cloth.row(MIN));
        check.missing("row: none such", () -> cloth.row(Integer.MAX_VALUE));
        cloth.must(0, 0, MIN);
        check.same("row: a long", 1L << 31, cloth.row(0));
        check.missing("row: shorter than it was", () -> cloth.row(1));
        // Calls that tell nothing in the ROW leave it as it is.
        cloth.value(0);
        cloth.piece(0, 0, 0, 0);
        cloth.draw(0);
        cloth.keep(0);
        cloth.again(0);
        Check.story(cloth, "w1");
        cloth.when(0, 1);
        cloth.younger(0, 0, 0);
        cloth.wanted(0, 0, 0, 0);
        check.row("row: stays", cloth, 1L << 31);
    }
}
