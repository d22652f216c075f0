/** Promises 37 to 40: which PIECES part the STORIES. */
public final class PlanTest {
    private static final int MIN = Integer.MIN_VALUE;

    private final Check check = new Check("PlanTest");

    public static void main(String[] args) {
        PlanTest test = new PlanTest();
        test.parts();
        test.partsWithoutStories();
        test.nexts();
        test.fewest();
        test.fewestOfMany();
        test.where();
        test.whereByWayAndHouse();
        test.refused();
        test.check.close();
    }

    private static ClothWithMan straight() {
        ClothWithMan cloth = new ClothWithMan();
        Check.curve(cloth, "0:0;199:199");
        return cloth;
    }

    private void parts() {
        ClothWithMan cloth = straight();
        cloth.house(0, 30, 10);
        cloth.house(1, 0, 9);
        cloth.piece(0, 0, 0, 0);
        cloth.piece(0, 0, 0, 1);
        Check.story(cloth, "w100");
        check.rowed("parts: one story", cloth, 0, cloth.parts(0, 50));
        Check.story(cloth, "w120");
        check.rowed("parts: twice the span is not farther", cloth, 0, cloth.parts(0, 50), 0, 1);
        check.rowed("parts: by a lesser span", cloth, 1, cloth.parts(1, 50));
        Check.story(cloth, "");
        check.rowed("parts: in the year told", cloth, 2, cloth.parts(0, 50), 0, 1);
        check.rowed("parts: in the year told", cloth, 1, cloth.parts(0, 121), 0, 1);
        check.rowed("parts: in the year told", cloth, 1, cloth.parts(0, 99), 0, 1);
        check.rowed("parts: in the year told", cloth, 2, cloth.parts(1, 119), 1, 2);
        check.rowed("parts: in the year told", cloth, 2, cloth.parts(1, 101), 0, 2);
        Check.story(cloth, "w160");
        check.rowed("parts: the first of pairs", cloth, 4, cloth.parts(0, 160), 0, 1);
        check.rowed("parts: the first of pairs", cloth, 5, cloth.parts(1, 160), 2, 3);
        cloth.count(0, 500);
        check.rowed("parts: counted or not", cloth, 4, cloth.parts(0, 160), 0, 1);
        check.rowed("parts: all", cloth, 6, cloth.parts(1, 0));
        Check.story(cloth, "h0,70");
        check.rowed("parts: a house off", cloth, 9, cloth.parts(0, 0), 0, 1);
    }

    private void partsWithoutStories() {
        ClothWithMan cloth = straight();
        check.same("parts: no piece", -1, cloth.parts(0, 50));
        cloth.piece(0, 0, 0, 0);
        check.rowed("parts: no stories", cloth, 0, cloth.parts(0, 50));
        check.rowed("fewest: no stories", cloth, 0, cloth.fewest(50), 0);
        check.same("next: no stories", -1, cloth.next(50));
        check.same("where: no stories", -1, cloth.where(50));
        Check.story(cloth, "");
        check.rowed("next: one story", cloth, 0, cloth.next(50), 0);
        check.rowed("fewest: one story", cloth, 0, cloth.fewest(50), 0);
        check.rowed("where: one story", cloth, 0, cloth.where(50), 0, 0, 0, 0);
    }

    /** PIECES 0, 1 part the mended from the woven, 2, 3 those woven then and then, 4 all of them. */
    private static ClothWithMan three() {
        ClothWithMan cloth = straight();
        cloth.house(0, 0, 30);
        cloth.house(1, 0, 10);
        cloth.piece(0, 0, 0, 0);
        cloth.piece(3, 1, 0, 0);
        cloth.piece(4, 0, 0, 1);
        cloth.piece(4, 1, 0, 1);
        cloth.piece(0, 0, 0, 1);
        Check.story(cloth, "w100");
        Check.story(cloth, "w130");
        Check.story(cloth, "w100;m199");
        return cloth;
    }

    private void nexts() {
        ClothWithMan cloth = three();
        check.same("parts", 2, cloth.parts(0, 0));
        check.same("parts", 2, cloth.parts(2, 0));
        check.same("parts", 3, cloth.parts(4, 0));
        check.rowed("next", cloth, 4, cloth.next(0), 3);
        cloth.count(4, 1);
        check.rowed("next: of equal ones the first", cloth, 0, cloth.next(0), 2);
        cloth.count(0, 1);
        check.rowed("next: of equal ones the first", cloth, 1, cloth.next(0), 2);
        cloth.count(1, 1);
        cloth.count(2, 1);
        check.rowed("next: one left", cloth, 3, cloth.next(0), 2);
        cloth.count(3, 1);
        check.same("next: all are counted", -2, cloth.next(0));
        check.row("next: the row stays", cloth, 2);
        cloth.house(2, 0, 60);
        cloth.piece(9, 0, 0, 2);
        check.rowed("next: one that parts none", cloth, 5, cloth.next(0), 0);
        ClothWithMan none = straight();
        Check.story(none, "");
        check.same("next: no pieces", -2, none.next(0));
    }

    private void fewest() {
        ClothWithMan cloth = three();
        check.rowed("fewest: one", cloth, 1, cloth.fewest(0), 16);
        cloth.house(1, 0, 15);
        // Now 2, 3 part none at all, nor 4 what is woven then and then: twice 15 is not farther.
        check.same("fewest: not by all", -2, cloth.fewest(0));
        check.row("fewest: the row stays", cloth, 16);
        cloth.house(1, 0, 14);
        cloth.count(4, 7);
        check.rowed("fewest: counted ones too", cloth, 1, cloth.fewest(0), 16);
        ClothWithMan two = straight();
        Check.story(two, "");
        Check.story(two, "");
        check.same("fewest: no pieces", -2, two.fewest(0));
        two.piece(0, 0, 0, 0);
        check.same("fewest: never parted", -2, two.fewest(0));
    }

    private void fewestOfMany() {
        ClothWithMan cloth = straight();
        for (int house = 0; house < 6; house++) {
            cloth.house(house, 0, 10);
        }
        // PIECES by HOUSES 5, 4 .. 0, and again.
        for (int i = 0; i < 12; i++) {
            cloth.piece(9, 7, 0, 5 - i % 6);
        }
        Check.story(cloth, "w100;h0,50");
        Check.story(cloth, "w100;h1,50");
        Check.story(cloth, "w100;h2,50");
        check.rowed("fewest: two, the least", cloth, 2, cloth.fewest(0), 8 + 16);
        Check.story(cloth, "w100;h3,50");
        Check.story(cloth, "w100;h4,50");
        Check.story(cloth, "w100;h5,50");
        check.rowed("fewest: five, the least", cloth, 5, cloth.fewest(0), 31);
        for (int house = 0; house < 5; house++) {
            cloth.house(house, 0, 25);
        }
        check.same("fewest: not by all", -2, cloth.fewest(0));
        for (int house = 0; house < 5; house++) {
            cloth.house(house, 0, 24);
        }
        check.same("fewest: by all", 5, cloth.fewest(0));
    }

    private void where() {
        ClothWithMan cloth = straight();
        Check.story(cloth, "w100");
        Check.story(cloth, "w100;d3");
        // 3 times x farther than 40: from x 14 on.
        check.rowed("where", cloth, 1, cloth.where(0), 14, 0, 0, 0);
        cloth.house(4, 0, 10);
        check.rowed("where: by a lesser span", cloth, 1, cloth.where(0), 7, 0, 0, 4);
        Check.story(cloth, "w100;m40");
        // Where it is mended and drifts by more than 20 would be x 7: there it is not mended.
        check.rowed("where: the most", cloth, 2, cloth.where(0), 0, 0, 0, 0);
        Check.story(cloth, "");
        check.rowed("where: in the year told", cloth, 5, cloth.where(0), 0, 0, 0, 4);
        check.rowed("where: in the year told", cloth, 3, cloth.where(100), 0, 0, 0, 0);
        for (int i = 0; i < 12; i++) {
            cloth.piece(0, 0, 0, 0);
        }
        check.rowed("where: though there are 12", cloth, 3, cloth.where(100), 0, 0, 0, 0);
        check.same("where: no piece is told by it", 12, cloth.told(3));
    }

    private void whereByWayAndHouse() {
        ClothWithMan cloth = straight();
        Check.story(cloth, "w100");
        Check.story(cloth, "w145");
        cloth.stuff(0, 0, 24, 8, 0, 50);
        check.rowed("where: none", cloth, 0, cloth.where(0), 0, 0, 0, 0);
        cloth.way(2, 80);
        cloth.way(3, 100);
        // By way 2 a tenth is left: 90 and 130, not farther than 40.
        check.rowed("where: a way", cloth, 1, cloth.where(0), 0, 0, 3, 0);
        cloth.house(5, 0, 15);
        check.rowed("where: a way, a house", cloth, 1, cloth.where(0), 0, 0, 2, 5);
        cloth.stuff(0, 0, 24, 2, 0, 90);
        cloth.stuff(0, 2, 5, 6, 0, 90);
        cloth.way(2, 0);
        cloth.way(3, 90);
        // With 5 and 9 left: 86 and 124 by span 15.
        check.rowed("where: a house alone", cloth, 1, cloth.where(0), 0, 0, 3, 5);
        cloth.house(5, 0, 20);
        check.rowed("where: less stuff", cloth, 1, cloth.where(0), 5, 2, 3, 0);
        check.same("where", 95, cloth.thread(5, 2, 3));
    }

    private void refused() {
        ClothWithMan cloth = three();
        cloth.needs(0);
        int[] none = {-1, 200, MIN, Integer.MAX_VALUE};
        for (int year : none) {
            check.same("parts: another year", -1, cloth.parts(0, year));
            check.same("next: another year", -1, cloth.next(year));
            check.same("fewest: another year", -1, cloth.fewest(year));
            check.same("where: another year", -1, cloth.where(year));
        }
        check.same("parts: no such piece", -1, cloth.parts(5, 0));
        check.same("parts: no such piece", -1, cloth.parts(-1, 0));
        check.row("the row stays", cloth, 1);
        for (int piece = 0; piece < 5; piece++) {
            cloth.count(piece, 1);
        }
        check.same("next: NONE first", -1, cloth.next(200));
        check.same("next: all are counted", -2, cloth.next(199));
    }
}
