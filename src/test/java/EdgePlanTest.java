/** The boundary cases of promises 37 to 40: which PIECES part the STORIES. */
public final class EdgePlanTest {
    private static final int MIN = Edges.MIN;
    private static final int MAX = Edges.MAX;
    private static final int[] NO_YEARS = {-1, 200, MIN, MAX};

    private final Edges edges = new Edges("EdgePlanTest", 37, 40);

    public static void main(String[] args) {
        EdgePlanTest test = new EdgePlanTest();
        test.partsFartherThanTwiceTheSpan();
        test.partsFirstAndLastPair();
        test.partsYears();
        test.partsWithoutPairs();
        test.partsRefused();
        test.nextFirstAndLastPiece();
        test.nextOfEqualOnes();
        test.nextAllCounted();
        test.nextRefused();
        test.fewestNone();
        test.fewestAllOfThem();
        test.fewestOfAsFew();
        test.fewestNotByAll();
        test.fewestRefused();
        test.whereFirstAndLast();
        test.whereOfEqualOnes();
        test.whereRefused();
        test.edges.close();
    }

    private static ClothWithMan straight() {
        ClothWithMan cloth = new ClothWithMan();
        Check.curve(cloth, "0:0;199:199");
        return cloth;
    }

    private static ClothWithMan told(int pieces, String... stories) {
        ClothWithMan cloth = straight();
        for (int i = 0; i < pieces; i++) {
            cloth.piece(0, 0, 0, 0);
        }
        for (String story : stories) {
            Check.story(cloth, story);
        }
        return cloth;
    }

    // ---- promise 37

    private void partsFartherThanTwiceTheSpan() {
        edges.promise(37);
        int[] spans = {1, 2, 20, 60};
        for (int span : spans) {
            ClothWithMan cloth = told(1, "w0", "w" + 2 * span);
            cloth.house(0, 0, span);
            edges.rowed("twice " + span, cloth, 0, cloth.parts(0, 0), 0, 1);
            cloth = told(1, "w0", "w" + (2 * span + 1));
            cloth.house(0, 50, span);
            edges.rowed("one more than twice " + span, cloth, 1, cloth.parts(0, 0));
            cloth = told(1, "w" + (2 * span + 1), "w1");
            cloth.house(0, -50, span);
            edges.rowed("twice " + span + ", the other way", cloth, 0, cloth.parts(0, 0), 0, 1);
            cloth = told(1, "w" + (2 * span + 1), "w0");
            cloth.house(0, 0, span);
            edges.rowed("one more, the other way", cloth, 1, cloth.parts(0, 0));
        }
    }

    private void partsFirstAndLastPair() {
        edges.promise(37);
        ClothWithMan all = told(1, "w0", "w30", "w60", "w90", "w120", "w150");
        all.house(0, 0, 14);
        edges.rowed("all fifteen", all, 15, all.parts(0, 0));
        all.house(0, 0, 15);
        edges.rowed("all but five", all, 10, all.parts(0, 0), 0, 1);
        ClothWithMan last = told(1, "w0", "w30", "w60", "w90", "w120", "w120;d1");
        last.house(0, 0, 14);
        edges.rowed("all but the last", last, 14, last.parts(0, 0), 4, 5);
        ClothWithMan middle = told(1, "w0", "w30", "w60", "w90", "w0;d1", "w30;d1");
        middle.house(0, 0, 14);
        edges.rowed("the first of two", middle, 13, middle.parts(0, 0), 0, 4);
        ClothWithMan none = told(1, "", "", "", "", "", "");
        edges.rowed("none", none, 0, none.parts(0, 0), 0, 1);
    }

    private void partsYears() {
        edges.promise(37);
        ClothWithMan cloth = told(1, "", "w100");
        edges.rowed("in the first YEAR", cloth, 1, cloth.parts(0, 0));
        edges.rowed("in the last YEAR", cloth, 1, cloth.parts(0, 199));
        edges.rowed("as far as twice the SPAN", cloth, 0, cloth.parts(0, 60), 0, 1);
        edges.rowed("one YEAR earlier", cloth, 1, cloth.parts(0, 59));
        edges.rowed("as far as twice the SPAN", cloth, 0, cloth.parts(0, 140), 0, 1);
        edges.rowed("one YEAR later", cloth, 1, cloth.parts(0, 141));
        cloth.count(0, 1999);
        edges.rowed("COUNTED", cloth, 1, cloth.parts(0, 0));
        cloth.woven(0);
        edges.rowed("whatever it is woven in", cloth, 0, cloth.parts(0, 100), 0, 1);
    }

    private void partsWithoutPairs() {
        edges.promise(37);
        ClothWithMan cloth = told(12);
        cloth.years(0, 1);
        edges.rowed("no STORIES", cloth, 0, cloth.parts(0, 0));
        Check.story(cloth, "w5");
        cloth.years(0, 1);
        edges.rowed("one STORY", cloth, 0, cloth.parts(11, 0));
    }

    private void partsRefused() {
        edges.promise(37);
        int[] none = {-1, 12, 32, MIN, MAX};
        for (int piece : none) {
            edges.changesNothing("PIECE " + piece, -1, c -> c.parts(piece, 50));
        }
        edges.changesNothing("the first of none", -1, ClothWithMan::new, c -> c.parts(0, 50));
        edges.changesNothing("one behind the last", -1, Edges::rich, c -> c.parts(7, 50));
        for (int year : NO_YEARS) {
            edges.changesNothing("YEAR " + year, -1, c -> c.parts(0, year));
        }
    }

    // ---- promise 38

    private void nextFirstAndLastPiece() {
        edges.promise(38);
        ClothWithMan cloth = straight();
        for (int i = 0; i < 12; i++) {
            cloth.piece(0, 0, 0, i == 11 ? 1 : 0);
        }
        cloth.house(1, 0, 14);
        Check.story(cloth, "w0");
        Check.story(cloth, "w30");
        edges.rowed("the last of twelve", cloth, 11, cloth.next(0), 1);
        cloth.count(11, 0);
        edges.rowed("those not COUNTED, that part none", cloth, 0, cloth.next(0), 0);
        for (int i = 0; i < 10; i++) {
            cloth.count(i, 0);
        }
        edges.rowed("one alone", cloth, 10, cloth.next(0), 0);
        cloth.house(0, 0, 14);
        edges.rowed("one alone", cloth, 10, cloth.next(199), 1);
    }

    private void nextOfEqualOnes() {
        edges.promise(38);
        ClothWithMan cloth = told(12, "w0", "w50", "w199");
        edges.rowed("the first", cloth, 0, cloth.next(0), 3);
        cloth.count(0, 5);
        edges.rowed("the first that is not COUNTED", cloth, 1, cloth.next(0), 3);
        ClothWithMan one = told(3, "w0");
        edges.rowed("one STORY", one, 0, one.next(0), 0);
    }

    private void nextAllCounted() {
        edges.promise(38);
        edges.changesNothing("all twelve are COUNTED", -2, Edges::full, c -> c.next(0));
        edges.changesNothing("the one there is is COUNTED", -2, () -> {
            ClothWithMan cloth = told(1, "w0", "w199");
            cloth.count(0, 5);
            cloth.parts(0, 100);
            return cloth;
        }, c -> c.next(199));
        edges.changesNothing("there is none", -2, () -> {
            ClothWithMan cloth = told(0, "w0", "w199");
            cloth.years(0, 1);
            return cloth;
        }, c -> c.next(0));
    }

    private void nextRefused() {
        edges.promise(38);
        for (int year : NO_YEARS) {
            edges.changesNothing("YEAR " + year, -1, c -> c.next(year));
        }
        edges.changesNothing("no STORIES", -1, () -> told(3), c -> c.next(0));
        edges.changesNothing("no STORIES, NONE ahead of -2", -1, () -> {
            ClothWithMan cloth = told(1);
            cloth.count(0, 5);
            return cloth;
        }, c -> c.next(0));
    }

    // ---- promise 39

    private void fewestNone() {
        edges.promise(39);
        ClothWithMan bare = straight();
        edges.rowed("no STORIES, no PIECES", bare, 0, bare.fewest(0), 0);
        ClothWithMan many = told(12);
        edges.rowed("no STORIES", many, 0, many.fewest(199), 0);
        ClothWithMan one = told(12, "w5");
        edges.rowed("one STORY", one, 0, one.fewest(0), 0);
        ClothWithMan alone = told(0, "w5");
        edges.rowed("one STORY, no PIECES", alone, 0, alone.fewest(0), 0);
    }

    /** Each STORY but the first is told apart by one HOUSE alone: PIECES by all of these are needed. */
    private static ClothWithMan byHouses() {
        ClothWithMan cloth = straight();
        for (int i = 0; i < 12; i++) {
            cloth.piece(0, 0, 0, i % 6);
        }
        for (int house = 0; house < 5; house++) {
            Check.story(cloth, "w100;h" + house + ",41");
        }
        Check.story(cloth, "w100");
        return cloth;
    }

    private void fewestAllOfThem() {
        edges.promise(39);
        ClothWithMan five = straight();
        for (int house = 0; house < 5; house++) {
            five.piece(0, 0, 0, house);
        }
        for (int house = 0; house < 5; house++) {
            Check.story(five, "w100;h" + house + ",41");
        }
        Check.story(five, "w100");
        edges.rowed("all five there are", five, 5, five.fewest(0), 31);
        for (int house = 0; house < 5; house++) {
            five.count(house, 9);
        }
        edges.rowed("all five, COUNTED", five, 5, five.fewest(0), 31);
        ClothWithMan last = told(0, "w0", "w150");
        for (int i = 0; i < 12; i++) {
            last.piece(0, 0, 0, i == 11 ? 1 : 0);
        }
        last.stuff(0, 0, 1, 1, 0, 90);
        last.house(1, 0, 5);
        edges.rowed("the last of twelve alone", last, 1, last.fewest(0), 2048);
    }

    private void fewestOfAsFew() {
        edges.promise(39);
        ClothWithMan cloth = byHouses();
        edges.rowed("the least bits of as few", cloth, 5, cloth.fewest(0), 31);
        ClothWithMan alike = told(12, "w0", "w150");
        edges.rowed("the first of twelve", alike, 1, alike.fewest(0), 1);
        ClothWithMan single = straight();
        single.house(2, 0, 5);
        single.piece(0, 0, 0, 0);
        single.piece(12, 0, 0, 0);
        Check.story(single, "w0");
        Check.story(single, "w45");
        Check.story(single, "w0;d4");
        // At x 0 0 45 0, at x 12 0 45 48: by 20 each leaves what the other parts.
        edges.rowed("two together", single, 2, single.fewest(0), 3);
        single.piece(5, 0, 0, 2);
        // At x 5 0 45 20, by 5.
        edges.rowed("fewer ahead of lesser bits", single, 1, single.fewest(0), 4);
    }

    private void fewestNotByAll() {
        edges.promise(39);
        edges.changesNothing("no PIECES", -2, () -> {
            ClothWithMan cloth = told(0, "w0", "w199");
            cloth.years(0, 1);
            return cloth;
        }, c -> c.fewest(0));
        edges.changesNothing("twelve PIECES", -2, () -> {
            ClothWithMan cloth = told(12, "w0", "w40");
            cloth.parts(0, 0);
            return cloth;
        }, c -> c.fewest(0));
        edges.changesNothing("one pair is left", -2, () -> {
            ClothWithMan cloth = byHouses();
            cloth.house(4, 0, 21);
            cloth.parts(0, 0);
            return cloth;
        }, c -> c.fewest(0));
        ClothWithMan just = told(12, "w0", "w41");
        edges.rowed("one YEAR more", just, 1, just.fewest(0), 1);
    }

    private void fewestRefused() {
        edges.promise(39);
        for (int year : NO_YEARS) {
            edges.changesNothing("YEAR " + year, -1, c -> c.fewest(year));
        }
        edges.changesNothing("NONE ahead of -2", -1, () -> told(0, "w0", "w199"), c -> c.fewest(200));
    }

    // ---- promise 40

    private void whereFirstAndLast() {
        edges.promise(40);
        ClothWithMan last = told(0, "w100", "w146");
        for (int house = 0; house < 5; house++) {
            last.house(house, 0, 60);
        }
        last.stuff(0, 0, 24, 8, 0, 90);
        last.stuff(0, 0, 24, 7, 0, 90);
        last.stuff(0, 7, 23, 1, 0, 90);
        last.way(3, 90);
        // At (23, 7) by WAY 3 91 and 132, elsewhere 82 and 120.
        edges.rowed("the last of all", last, 1, last.where(0), 23, 7, 3, 5);
        last.house(5, 0, 21);
        edges.rowed("none at all", last, 0, last.where(0), 0, 0, 0, 0);
        ClothWithMan first = told(0, "w0", "w41");
        edges.rowed("the first of all", first, 1, first.where(0), 0, 0, 0, 0);
        ClothWithMan one = told(12, "w0");
        edges.rowed("one STORY, twelve PIECES", one, 0, one.where(0), 0, 0, 0, 0);
        edges.same("it tells no PIECE", 12, one.told(3));
    }

    private void whereOfEqualOnes() {
        edges.promise(40);
        ClothWithMan cloth = told(0, "w100", "w100;d21");
        edges.rowed("the first x", cloth, 1, cloth.where(0), 2, 0, 0, 0);
        cloth.stuff(2, 0, 1, 8, 0, 90);
        Check.story(cloth, "w50");
        // From x 2 on d parts two, but at 2 w50 is parted from one of the others alone.
        edges.rowed("the most ahead of the first", cloth, 3, cloth.where(0), 3, 0, 0, 0);
        cloth.way(3, 100);
        edges.rowed("the WAY behind x and y", cloth, 3, cloth.where(0), 2, 0, 3, 0);
        ClothWithMan years = told(0, "", "w100");
        edges.rowed("as far as twice the SPAN", years, 0, years.where(60), 0, 0, 0, 0);
        edges.rowed("one YEAR more", years, 1, years.where(59), 0, 0, 0, 0);
        years.house(5, 0, 19);
        edges.rowed("by the last HOUSE", years, 1, years.where(60), 0, 0, 0, 5);
        edges.rowed("in the first YEAR", years, 1, years.where(0), 0, 0, 0, 0);
        edges.rowed("in the last YEAR", years, 1, years.where(199), 0, 0, 0, 0);
    }

    private void whereRefused() {
        edges.promise(40);
        for (int year : NO_YEARS) {
            edges.changesNothing("YEAR " + year, -1, c -> c.where(year));
        }
        edges.changesNothing("no STORIES", -1, () -> {
            ClothWithMan cloth = told(3);
            cloth.years(0, 1);
            return cloth;
        }, c -> c.where(0));
    }
}
