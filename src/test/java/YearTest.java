/** Promises 18 to 22: likeness of numbers, and years by them. */
public final class YearTest {
    private static final int MIN = Integer.MIN_VALUE;
    private static final int MAX = Integer.MAX_VALUE;

    private final Check check = new Check("YearTest");

    public static void main(String[] args) {
        YearTest test = new YearTest();
        test.likenesses();
        test.years();
        test.manySpans();
        test.likelies();
        test.withins();
        test.betweens();
        test.productsOfLikenesses();
        test.refused();
        test.allWeightsZero();
        test.check.close();
    }

    private void likenesses() {
        ClothWithMan cloth = new ClothWithMan();
        int[] due = {100, 88, 61, 32, 14, 4, 1, 0, 0};
        for (int d = 0; d < due.length; d++) {
            // With span 20 a step of d is of 10.
            check.same("likeness", due[d], cloth.likeness(500, 500 + 10 * d, 20));
            check.same("likeness", due[d], cloth.likeness(500, 500 - 10 * d - 9, 20));
            check.same("likeness: span 1", due[d], cloth.likeness(0, d / 2, 1) * (1 - d % 2)
                    + due[d] * (d % 2));
        }
        check.same("likeness: span 60", 100, cloth.likeness(29, 0, 60));
        check.same("likeness: span 60", 88, cloth.likeness(30, 0, 60));
        check.same("likeness: far apart", 0, cloth.likeness(MIN, MAX, 60));
        check.same("likeness: far apart", 0, cloth.likeness(MAX, MIN, 1));
        check.same("likeness: far and alike", 100, cloth.likeness(MIN, MIN, 1));
        // Twice 2^31 by a span would be 0 as an int.
        check.same("likeness: not as ints", 0, cloth.likeness(MIN, 0, 60));
        check.same("likeness: not as ints", 0, cloth.likeness(1 << 30, -(1 << 30), 60));
        check.same("likeness: span", -1, cloth.likeness(1, 1, 0));
        check.same("likeness: span", -1, cloth.likeness(1, 1, 61));
        check.same("likeness: span", -1, cloth.likeness(1, 1, MIN));
    }

    private void years() {
        ClothWithMan cloth = new ClothWithMan();
        check.rowed("years: all", cloth, 1, cloth.years(0, 1), 0, 199);
        Check.curve(cloth, "0:0;199:199");
        check.rowed("years", cloth, 1, cloth.years(100, 10), 90, 110);
        check.rowed("years: from 0", cloth, 1, cloth.years(-5, 10), 0, 5);
        check.rowed("years: to 199", cloth, 1, cloth.years(205, 10), 195, 199);
        check.rowed("years: as far as a span", cloth, 1, cloth.years(-10, 10), 0, 0);
        check.rowed("years: none", cloth, 0, cloth.years(-11, 10));
        check.rowed("years: none", cloth, 0, cloth.years(MIN, 60));
        check.rowed("years: none", cloth, 0, cloth.years(MAX, 60));
        cloth.years(100, 10);
        check.same("years: span", -1, cloth.years(100, 0));
        check.same("years: span", -1, cloth.years(100, 61));
        check.row("years: the row stays", cloth, 90, 110);
        Check.curve(cloth, "0:100;10:110;20:100;30:110;40:100");
        check.rowed("years: spans", cloth, 3, cloth.years(100, 1), 0, 1, 19, 21, 39, 199);
    }

    private void manySpans() {
        ClothWithMan cloth = new ClothWithMan();
        // 14 points that go up and down: 7 spans at the bottom; the last goes on to 199.
        Check.curve(cloth, "0:0;2:9;4:0;6:9;8:0;10:9;12:0;14:9;16:0;18:9;20:0;22:9;24:0");
        check.rowed("years: 7 spans", cloth, 7, cloth.years(0, 1),
                0, 0, 4, 4, 8, 8, 12, 12, 16, 16, 20, 20, 24, 199);
        // In the middle each slope passes once: 12 spans, of which 10 are told.
        check.rowed("years: 12 spans", cloth, 12, cloth.years(4, 1),
                1, 1, 3, 3, 5, 5, 7, 7, 9, 9, 11, 11, 13, 13, 15, 15, 17, 17, 19, 19);
    }

    /** VALUES are YEARS; PIECE 0 is counted 100 by span 10: 9 YEARS of 100, 10 each of 88, 61 ..: 2900. */
    private static ClothWithMan straight() {
        ClothWithMan cloth = new ClothWithMan();
        Check.curve(cloth, "0:0;199:199");
        cloth.house(0, 0, 10);
        cloth.piece(0, 0, 0, 0);
        cloth.count(0, 100);
        return cloth;
    }

    private void likelies() {
        ClothWithMan cloth = straight();
        check.rowed("likely: of equal ones the first", cloth, 96, cloth.likely(1), 1, 29);
        cloth.house(0, 20, 10);
        check.rowed("likely: less its slip", cloth, 76, cloth.likely(1), 1, 29);
        cloth.house(0, 0, 1);
        cloth.count(0, 198);
        // 100 of 198, 61 of 197 and 199, 14 of 196, 1 of 195.
        check.rowed("likely: at the end", cloth, 198, cloth.likely(1), 100, 237);
    }

    private void withins() {
        ClothWithMan cloth = straight();
        check.rowed("within 1", cloth, 1, cloth.within(1, 1), 96, 96, 1);
        check.rowed("within 31", cloth, 9, cloth.within(1, 31), 96, 104, 1);
        check.rowed("within 32", cloth, 10, cloth.within(1, 32), 91, 104, 2);
        check.rowed("within 50", cloth, 16, cloth.within(1, 50), 91, 106, 1);
        check.rowed("within 100", cloth, 69, cloth.within(1, 100), 66, 134, 1);
        Check.curve(cloth, "0:100");
        check.rowed("within: exactly so many", cloth, 2, cloth.within(1, 1), 0, 1, 1);
        check.rowed("within: all alike", cloth, 200, cloth.within(1, 100), 0, 199, 1);
        Check.curve(cloth, "50:100;51:200;149:200;150:100");
        check.rowed("within: two spans", cloth, 100 + 1, cloth.within(1, 100), 0, 199, 2);
        check.rowed("within: half of it", cloth, 52, cloth.within(1, 51), 0, 150, 2);
    }

    private void betweens() {
        ClothWithMan cloth = straight();
        check.rowed("between", cloth, 0, cloth.between(1, 96, 104), 9, 29);
        check.rowed("between: one year", cloth, 0, cloth.between(1, 100, 100), 1, 29);
        check.rowed("between: all", cloth, 0, cloth.between(1, 0, 199), 1, 1);
        check.rowed("between: none of it", cloth, 0, cloth.between(1, 0, 65), 0, 1);
        check.rowed("between: to its first", cloth, 0, cloth.between(1, 0, 66), 1, 2900);
        check.rowed("between: from its last", cloth, 0, cloth.between(1, 134, 199), 1, 2900);
        int[][] none = {{-1, 5}, {5, 200}, {6, 5}, {200, 200}, {MIN, MAX}};
        for (int[] n : none) {
            check.same("between: none such", -1, cloth.between(1, n[0], n[1]));
        }
        check.row("between: the row stays", cloth, 1, 2900);
    }

    private void productsOfLikenesses() {
        ClothWithMan cloth = new ClothWithMan();
        Check.curve(cloth, "0:0;199:199");
        for (int i = 0; i < 7; i++) {
            cloth.piece(i, 0, 0, i % 6);
            cloth.house(i % 6, i % 6, 1);
            cloth.count(i, 100 + i % 6 + (i == 1 ? 1 : 0));
        }
        // PIECE 0 is clean at 100, PIECE 1 at 101: 100 * 61 twice, 61 * 14 twice, 14 * 1 twice.
        check.rowed("likely: two", cloth, 100, cloth.likely(3), 1525, (6100 + 854 + 14) / 2);
        check.same("likely: six", 100, cloth.likely(63));
        long all = 0;
        long best = 0;
        int[] likeness = {100, 61, 14, 1, 0};
        for (int year = 96; year <= 105; year++) {
            long weight = likeness[Math.min(4, Math.abs(year - 101))];
            for (int i = 0; i < 5; i++) {
                weight *= likeness[Math.min(4, Math.abs(year - 100))];
            }
            all += weight;
            best = Math.max(best, weight);
        }
        check.same("likely: six, the share", best * cloth.row(1), all * cloth.row(0));
        check.same("likely: seven", -1, cloth.likely(127));
        check.same("within: seven", -1, cloth.within(127, 50));
        check.same("between: seven", -1, cloth.between(127, 0, 199));
        check.same("within: six", 1, cloth.within(63, 50));
        check.same("between: six", 0, cloth.between(63, 0, 199));
    }

    private void refused() {
        ClothWithMan cloth = straight();
        cloth.piece(1, 0, 0, 0);
        cloth.needs(Check.story(cloth, "w1"));
        int[] none = {0, 2, 3, 4, 5, -1, MIN, MIN + 1, 1 << 12 | 1, 1 << 30 | 1};
        for (int bits : none) {
            check.same("likely: none such " + bits, -1, cloth.likely(bits));
            check.same("within: none such " + bits, -1, cloth.within(bits, 50));
            check.same("between: none such " + bits, -1, cloth.between(bits, 0, 199));
        }
        check.same("within: too few", -1, cloth.within(1, 0));
        check.same("within: too many", -1, cloth.within(1, 101));
        check.row("the row stays", cloth, 1);
        check.same("within: 1", 1, cloth.within(1, 1));
    }

    private void allWeightsZero() {
        ClothWithMan cloth = straight();
        cloth.needs(Check.story(cloth, "w1"));
        cloth.count(0, 1999);
        check.same("likely: all 0", -2, cloth.likely(1));
        check.same("within: all 0", -2, cloth.within(1, 1));
        check.same("between: all 0", -2, cloth.between(1, 0, 199));
        check.same("within: NONE first", -1, cloth.within(1, 101));
        check.same("between: NONE first", -1, cloth.between(1, 1, 0));
        check.row("the row stays", cloth, 1);
    }
}
