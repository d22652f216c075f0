/** Promises 23 to 28: houses that differ, younger stuff. */
public final class HouseTest {
    private static final int MIN = Integer.MIN_VALUE;
    private static final int MAX = Integer.MAX_VALUE;

    private final Check check = new Check("HouseTest");

    public static void main(String[] args) {
        HouseTest test = new HouseTest();
        test.apart();
        test.apartBounds();
        test.nearApartBounds();
        test.slopes();
        test.lots();
        test.odds();
        test.refused();
        test.younger();
        test.must();
        test.check.close();
    }

    /** PIECES along the strip, all by one HOUSE, counted as told. */
    private static ClothWithMan strip(int span, int... numbers) {
        ClothWithMan cloth = new ClothWithMan();
        cloth.house(0, 0, span);
        for (int i = 0; i < numbers.length; i++) {
            cloth.piece(i, 0, 0, 0);
            cloth.count(i, numbers[i]);
        }
        return cloth;
    }

    private void apart() {
        ClothWithMan cloth = strip(10, 100, 130, 140);
        check.rowed("apart", cloth, 1, cloth.apart(3), 9, 2);
        check.rowed("apart: three", cloth, 1, cloth.apart(7), 26, 3);
        cloth.piece(3, 0, 0, 1);
        cloth.house(1, 50, 60);
        cloth.count(3, 200);
        // 100 and 150 (200 less 50): 2500 by 100 + 3600.
        check.rowed("apart: less slips, by spans", cloth, 0, cloth.apart(9), 25, 37);
        cloth.count(3, 150);
        check.rowed("apart: alike", cloth, 0, cloth.apart(9), 0, 1);
        // 0 30 40 with squares 100 100 3600 as whole numbers: 900 * 3600 + (0 + 900) * 100, by
        // 100 * 3600 twice and 100 * 100.
        check.rowed("apart: three houses", cloth, 0, cloth.apart(11), 333, 73);
    }

    private void apartBounds() {
        check.same("apart: two below 3.84", 0, strip(60, 0, 166).apart(3));
        check.same("apart: two above 3.84", 1, strip(60, 0, 167).apart(3));
        check.same("apart: two of span 1", 0, strip(1, 0, 2).apart(3));
        check.same("apart: two of span 1", 1, strip(1, 3, 0).apart(3));
        check.same("apart: three below 5.99", 0, strip(10, 0, 29, 30).apart(7));
        check.same("apart: three above 5.99", 1, strip(10, 0, 30, 30).apart(7));
        ClothWithMan four = strip(10, 0, 28, 0, 28);
        check.rowed("apart: four above 7.81", four, 1, four.apart(15), 196, 25);
        check.same("apart: four below 7.81", 0, strip(10, 0, 27, 0, 27).apart(15));
        ClothWithMan far = strip(60, -99, 1999, -99, 1999);
        check.rowed("apart: as far as can be", far, 1, far.apart(15), 1100401, 900);
        ClothWithMan near = strip(1, -99, 1999);
        check.rowed("apart: as far by the least span", near, 1, near.apart(3), 2098 * 1049, 1);
    }

    private void nearApartBounds() {
        ClothWithMan two = strip(1, 0, 49);
        two.piece(1, 0, 0, 1);
        two.house(1, 0, 25);
        two.count(2, 49);
        check.rowed("apart: two, 3.835", two, 0, two.apart(5), 2401, 626);
        two.house(1, 0, 5);
        two.count(2, 10);
        check.rowed("apart: two, 3.846", two, 1, two.apart(5), 50, 13);
        check.same("apart: three, 5.984", 0, strip(9, 0, 13, 31).apart(7));
        check.same("apart: three, 5.992", 1, strip(13, 0, 7, 42).apart(7));
        ClothWithMan four = strip(10, 0, 2, 9, 35);
        check.rowed("apart: four, 7.81 is not above it", four, 0, four.apart(15), 781, 100);
        check.same("apart: four above it", 1, strip(10, 0, 2, 9, 36).apart(15));
    }

    private void slopes() {
        ClothWithMan cloth = strip(10, 100, 130, 140);
        check.rowed("slope: up", cloth, 1, cloth.slope(7), 20, 1);
        check.rowed("slope: of two", cloth, 1, cloth.slope(5), 20, 1);
        check.rowed("slope: of two", cloth, 1, cloth.slope(3), 30, 1);
        cloth.count(2, 90);
        check.rowed("slope: down", cloth, 2, cloth.slope(7), -5, 1);
        cloth.count(2, 100);
        check.rowed("slope: neither", cloth, 0, cloth.slope(7), 0, 1);
        cloth.piece(23, 7, 0, 1);
        cloth.house(1, -50, 60);
        cloth.count(3, 0);
        // 100 at 0, 50 (0 less -50) at 23.
        check.rowed("slope: less slips", cloth, 2, cloth.slope(9), -50, 23);
        ClothWithMan six = strip(1, 1, 0, 0, 0, 0, 1999);
        check.rowed("slope: six", six, 1, six.slope(63), 1998, 7);
        cloth.piece(0, 5, 0, 0);
        cloth.count(4, 500);
        check.same("slope: all x alike", -2, cloth.slope(17));
        check.same("lot: all x alike", -2, cloth.lot(17));
        check.row("slope: the row stays", six, 1998, 7);
        check.row("slope: the row stays", cloth, -50, 23);
    }

    private void lots() {
        ClothWithMan cloth = strip(10, 0, 1, 2, 3);
        check.rowed("lot: straight", cloth, 0, cloth.lot(15), 1, 12);
        check.rowed("lot: two", cloth, 0, cloth.lot(3), 1, 1);
        cloth.count(3, 2);
        // 0 1 2 2: of 12 ways that differ only this and its turn, each put in two ways: 4 of 24.
        check.rowed("lot: equal numbers", cloth, 0, cloth.lot(15), 1, 6);
        cloth.count(0, 5);
        cloth.count(1, 5);
        cloth.count(2, 5);
        cloth.count(3, 5);
        check.rowed("lot: flat", cloth, 0, cloth.lot(15), 1, 1);
        ClothWithMan down = strip(10, 3, 1, 2);
        // x 0 1 2: the sum of x times number less that of numbers: -1; -2 or less: 2 ways; 1: 2; -1: 2.
        check.rowed("lot: either way", down, 0, down.lot(7), 1, 1);
        ClothWithMan six = strip(10, 0, 1, 2, 3, 4, 5);
        check.rowed("lot: six", six, 0, six.lot(63), 1, 360);
        ClothWithMan slipped = strip(10, 0, 1, 2);
        slipped.house(1, 50, 10);
        slipped.piece(5, 0, 0, 1);
        slipped.count(3, 53);
        // 0 1 2 3 at x 0 1 2 5, less its slip.
        check.rowed("lot: less slips", slipped, 0, slipped.lot(15), 1, 12);
    }

    private void odds() {
        ClothWithMan cloth = strip(10, 100, 130, 140);
        cloth.years(0, 60);
        check.rowed("odd", cloth, 0, cloth.odd(7), 1, 2);
        cloth = strip(10, 100, 130, 110);
        check.rowed("odd", cloth, 1, cloth.odd(7), 1, 2);
        cloth = strip(10, 5, 5, 5);
        check.rowed("odd: of equal ones the first", cloth, 0, cloth.odd(7), 0, 1);
        cloth = strip(10, 5, 6, 900, 7);
        check.rowed("odd: four", cloth, 2, cloth.odd(15), 1, 50);
    }

    private void refused() {
        ClothWithMan cloth = strip(10, 1, 2, 3, 4, 5, 6, 7);
        cloth.piece(9, 0, 0, 0);
        cloth.slope(3);
        int[] none = {0, 1, 128, 129, 131, -1, MIN, 1 << 12 | 3, 127};
        for (int bits : none) {
            check.same("apart: none such " + bits, -1, cloth.apart(bits));
            check.same("slope: none such " + bits, -1, cloth.slope(bits));
            check.same("lot: none such " + bits, -1, cloth.lot(bits));
            check.same("odd: none such " + bits, -1, cloth.odd(bits));
        }
        check.same("apart: five", -1, cloth.apart(31));
        check.same("odd: two", -1, cloth.odd(3));
        check.same("odd: five", -1, cloth.odd(31));
        check.row("the row stays", cloth, 1, 1);
        check.same("apart: four", 0, cloth.apart(15));
        check.same("slope: six", 1, cloth.slope(126));
        check.same("lot: six", 0, cloth.lot(126));
    }

    private void younger() {
        ClothWithMan cloth = new ClothWithMan();
        Check.curve(cloth, "0:300;199:101");
        cloth.needs(Check.story(cloth, "w1"));
        check.same("value", 300, cloth.value(0));
        check.same("value", 200, cloth.value(100));
        check.same("younger", 50, cloth.younger(0, 100, 250));
        check.same("younger: cut", 50, cloth.younger(0, 100, 250));
        check.same("younger: one less", 51, cloth.younger(0, 100, 249));
        check.same("younger: none needed", 0, cloth.younger(0, 100, 300));
        check.same("younger: none needed", 0, cloth.younger(0, 100, MAX));
        check.same("younger: all of it", 100, cloth.younger(0, 100, 200));
        check.same("younger: not by 100", -2, cloth.younger(0, 100, 199));
        check.same("younger: not by 100", -2, cloth.younger(0, 100, MIN));
        check.same("younger: older stuff", -2, cloth.younger(100, 0, 199));
        check.same("younger: older stuff", 0, cloth.younger(100, 0, 200));
        // 300 and 199 by 1 in a hundred: 298.99, cut.
        check.same("younger: cut", 1, cloth.younger(0, 101, 298));
        check.same("younger: cut", 2, cloth.younger(0, 101, 297));
        int[][] none = {{-1, 0}, {200, 0}, {0, -1}, {0, 200}};
        for (int[] n : none) {
            check.same("younger: none such", -1, cloth.younger(n[0], n[1], 0));
        }
        check.row("younger: the row stays", cloth, 1);
    }

    private void must() {
        ClothWithMan cloth = new ClothWithMan();
        Check.curve(cloth, "0:0;199:398");
        check.rowed("must", cloth, 50, cloth.must(0, 0, 100), 0);
        check.rowed("must: as near as can be, the first", cloth, 50, cloth.must(0, 0, 101), 1);
        check.rowed("must: half of it", cloth, 100, cloth.must(0, 50, 100), 0);
        check.rowed("must: with stuff", cloth, 0, cloth.must(100, 50, 100), 0);
        check.rowed("must: all stuff", cloth, 0, cloth.must(100, 100, 7), 193);
        check.rowed("must: the first year", cloth, 0, cloth.must(0, 0, 0), 0);
        check.rowed("must: the next", cloth, 1, cloth.must(0, 0, 2), 0);
        check.rowed("must: above all", cloth, 199, cloth.must(0, 0, 500), 102);
        check.rowed("must: far above", cloth, 199, cloth.must(0, 0, MAX), MAX - 398L);
        check.rowed("must: far below", cloth, 0, cloth.must(0, 0, MIN), 1L << 31);
        int[][] none = {{-1, 0}, {200, 0}, {0, -1}, {0, 101}};
        for (int[] n : none) {
            check.same("must: none such", -1, cloth.must(n[0], n[1], 0));
        }
        check.row("must: the row stays", cloth, 1L << 31);
        Check.curve(cloth, "0:5;50:100;60:100;199:5");
        // 100 with 33 of 5: 68.65, cut.
        check.rowed("must: a bent curve", cloth, 50, cloth.must(0, 33, 70), 2);
    }
}
