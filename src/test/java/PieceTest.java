/** Promises 13 to 17: pieces, what they truly are, and what they are counted as. */
public final class PieceTest {
    private final Check check = new Check("PieceTest");

    public static void main(String[] args) {
        PieceTest test = new PieceTest();
        test.pieces();
        test.truths();
        test.counts();
        test.draws();
        test.check.close();
    }

    private void pieces() {
        ClothWithMan cloth = new ClothWithMan();
        int[][] refused = {
            {-1, 0, 0, 0}, {24, 0, 0, 0}, {0, -1, 0, 0}, {0, 8, 0, 0},
            {0, 0, -1, 0}, {0, 0, 4, 0}, {0, 0, 0, -1}, {0, 0, 0, 6},
        };
        for (int[] r : refused) {
            check.same("piece refused", -1, cloth.piece(r[0], r[1], r[2], r[3]));
        }
        check.same("piece: refused ones are not told", 0, cloth.told(3));
        for (int n = 0; n < 12; n++) {
            check.same("piece", n, cloth.piece(23, 7, 3, 5));
        }
        check.same("piece: 12", -1, cloth.piece(0, 0, 0, 0));
        check.same("pieces", 12, cloth.told(3));
        check.same("truth of the last", 0, cloth.truth(11));
        check.missing("truth: none such", () -> cloth.truth(12));
    }

    private void truths() {
        ClothWithMan cloth = new ClothWithMan();
        Check.curve(cloth, "0:0;199:199");
        check.missing("truth: none told", () -> cloth.truth(0));
        check.missing("truth: none such", () -> cloth.truth(-1));
        cloth.stuff(3, 0, 1, 1, 0, 50);
        cloth.way(1, 100);
        cloth.house(2, -30, 5);
        cloth.piece(3, 0, 0, 2);
        cloth.piece(3, 0, 1, 2);
        cloth.piece(4, 0, 0, 0);
        check.same("truth: thread and slip", 50 - 30, cloth.truth(0));
        check.same("truth: cleaned", 100 - 30, cloth.truth(1));
        check.same("truth", 100, cloth.truth(2));
        cloth.woven(10);
        check.same("truth: below 0", 5 - 30, cloth.truth(0));
        check.missing("truth: none such", () -> cloth.truth(3));
        check.missing("truth: none such", () -> cloth.truth(Integer.MIN_VALUE));
    }

    private void counts() {
        ClothWithMan cloth = new ClothWithMan();
        check.no("count: none such", cloth.count(0, 5));
        cloth.piece(0, 0, 0, 0);
        cloth.piece(1, 0, 0, 0);
        check.missing("counted: not yet", () -> cloth.counted(0));
        check.yes("count", cloth.count(1, -99));
        check.same("counted", -99, cloth.counted(1));
        check.yes("count", cloth.count(1, 1999));
        check.same("counted: again", 1999, cloth.counted(1));
        check.no("count: above", cloth.count(1, 2000));
        check.no("count: below", cloth.count(1, -100));
        check.no("count: none such", cloth.count(2, 5));
        check.no("count: none such", cloth.count(-1, 5));
        check.same("counted: stays", 1999, cloth.counted(1));
        check.missing("counted: the other", () -> cloth.counted(0));
        check.missing("counted: none such", () -> cloth.counted(2));
        check.missing("counted: none such", () -> cloth.counted(-1));
        check.same("counted bits", 2, cloth.told(4));
    }

    private void draws() {
        ClothWithMan cloth = new ClothWithMan();
        Check.curve(cloth, "0:300");
        cloth.house(3, 7, 30);
        cloth.piece(0, 0, 0, 3);
        check.missing("draw: none such", () -> cloth.draw(1));
        check.missing("draw: none such", () -> cloth.draw(-1));
        check.same("draw: R stays without", 1, cloth.seed(1));
        int r = 1;
        for (int i = 0; i < 20; i++) {
            r = r * 1103515245 + 12345;
            int due = 307 + (int) ((r & 0xffffffffL) / 65536 % 61) - 30;
            check.same("draw", due, cloth.draw(0));
            check.same("draw: counted", due, cloth.counted(0));
        }
        check.same("draw: R", r, cloth.seed(-1));
        check.same("draw: R without sign", 307 + (int) ((-1103515245L + 12345 & 0xffffffffL) / 65536 % 61) - 30,
                cloth.draw(0));
        // The least draw of all lies below the least number that may be told; it stands as drawn.
        Check.curve(cloth, "0:0");
        cloth.house(3, -50, 60);
        int least = 0;
        cloth.seed(1);
        for (int i = 0; i < 300; i++) {
            least = Math.min(least, cloth.draw(0));
        }
        check.yes("draw: not held to what may be told", least < -99);
        check.yes("draw: not below its span", least >= -110);
    }
}
