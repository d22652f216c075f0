/** The boundary cases of promises 13 to 22: pieces, and years by what they were counted as. */
public final class EdgePieceTest {
    private static final int MIN = Edges.MIN;
    private static final int MAX = Edges.MAX;
    /** POINTS that go up and down between 0 and 9: 4 lies once between each two. */
    private static final String TEN_SLOPES = "0:0;2:9;4:0;6:9;8:0;10:9;12:0;14:9;16:0;18:9;20:0";

    private final Edges edges = new Edges("EdgePieceTest", 13, 22);

    public static void main(String[] args) {
        EdgePieceTest test = new EdgePieceTest();
        test.pieceBothSides();
        test.piecesAreTwelve();
        test.truthNoneSuch();
        test.truthLeastAndGreatest();
        test.countBothSides();
        test.countNoneSuch();
        test.drawNoneSuch();
        test.drawBothEnds();
        test.drawGoesRound();
        test.drawBeyondWhatMayBeTold();
        test.countedNoneSuch();
        test.countedBelowNothing();
        test.likenessSteps();
        test.likenessOfFarNumbers();
        test.likenessSpans();
        test.yearsAsFarAsASpan();
        test.yearsFirstTen();
        test.yearsRefused();
        test.likelyFirstAndLastYear();
        test.likelyLeastWeight();
        test.likelyOfEqualOnes();
        test.likelyByItsPiecesAlone();
        test.greatestWeights();
        test.withinHundredths();
        test.withinFirstAndLastYear();
        test.withinRefused();
        test.betweenBothSides();
        test.betweenRefused();
        test.weighedPieces();
        test.allWeightsZero();
        test.edges.close();
    }

    // ---- promise 13

    private void pieceBothSides() {
        edges.promise(13);
        int[][] taken = {{0, 0, 0, 0}, {23, 0, 0, 0}, {0, 7, 0, 0}, {0, 0, 3, 0}, {0, 0, 0, 5}, {23, 7, 3, 5}};
        for (int[] t : taken) {
            ClothWithMan cloth = new ClothWithMan();
            edges.same("a PIECE", 0, cloth.piece(t[0], t[1], t[2], t[3]));
            edges.same("a PIECE", 1, cloth.told(3));
        }
        int[][] refused = {
            {-1, 0, 0, 0}, {24, 0, 0, 0}, {0, -1, 0, 0}, {0, 8, 0, 0}, {0, 0, -1, 0}, {0, 0, 4, 0},
            {0, 0, 0, -1}, {0, 0, 0, 6}, {MIN, 0, 0, 0}, {MAX, 0, 0, 0}, {0, MIN, 0, 0}, {0, MAX, 0, 0},
            {0, 0, MIN, 0}, {0, 0, MAX, 0}, {0, 0, 0, MIN}, {0, 0, 0, MAX},
        };
        for (int[] r : refused) {
            edges.changesNothing("piece " + r[0] + " " + r[1] + " " + r[2] + " " + r[3], -1,
                    c -> c.piece(r[0], r[1], r[2], r[3]));
        }
    }

    private void piecesAreTwelve() {
        edges.promise(13);
        ClothWithMan cloth = new ClothWithMan();
        for (int n = 0; n < 12; n++) {
            edges.same("its number", n, cloth.piece(n, 0, 0, 0));
        }
        edges.same("a thirteenth", -1, cloth.piece(0, 0, 0, 0));
        edges.same("twelve", 12, cloth.told(3));
        edges.changesNothing("a thirteenth", -1, Edges::full, c -> c.piece(0, 0, 0, 0));
    }

    // ---- promise 14

    private void truthNoneSuch() {
        edges.promise(14);
        int[] none = {-1, 12, 13, 32, MIN, MAX};
        for (int piece : none) {
            edges.changesNothing("truth(" + piece + ")", Edges.THROWN, c -> c.truth(piece));
        }
        edges.changesNothing("the first of none", Edges.THROWN, ClothWithMan::new, c -> c.truth(0));
        edges.changesNothing("one behind the last", Edges.THROWN, Edges::rich, c -> c.truth(7));
        edges.yes("the last is there", Edges.answer(Edges.full(), c -> c.truth(11)) != Edges.THROWN);
        edges.yes("the first is there", Edges.answer(Edges.rich(), c -> c.truth(0)) != Edges.THROWN);
    }

    private void truthLeastAndGreatest() {
        edges.promise(14);
        ClothWithMan cloth = new ClothWithMan();
        cloth.piece(0, 0, 0, 0);
        cloth.house(0, -50, 60);
        edges.same("the least", -50, cloth.truth(0));
        cloth.house(0, -1, 60);
        edges.same("it may be -1", -1, cloth.truth(0));
        cloth.house(0, 50, 60);
        Check.curve(cloth, "0:999");
        edges.same("the greatest", 1049, cloth.truth(0));
    }

    // ---- promise 15

    private void countBothSides() {
        edges.promise(15);
        ClothWithMan cloth = new ClothWithMan();
        cloth.piece(0, 0, 0, 0);
        int[] taken = {-99, -98, -1, 0, 1, 1998, 1999};
        for (int number : taken) {
            edges.yes("count " + number, cloth.count(0, number));
            edges.same("count " + number, number, cloth.counted(0));
        }
        int[] none = {-100, -101, 2000, 2001, MIN, MAX};
        for (int number : none) {
            edges.changesNothing("count " + number, 0, Edges::rich, c -> Edges.bit(c.count(0, number)));
            edges.changesNothing("count " + number, 0, Edges::rich, c -> Edges.bit(c.count(6, number)));
            edges.changesNothing("count " + number, 0, Edges::full, c -> Edges.bit(c.count(11, number)));
        }
    }

    private void countNoneSuch() {
        edges.promise(15);
        int[] none = {-1, 12, 32, MIN, MAX};
        for (int piece : none) {
            edges.changesNothing("count of " + piece, 0, c -> Edges.bit(c.count(piece, 5)));
        }
        edges.changesNothing("the first of none", 0, ClothWithMan::new, c -> Edges.bit(c.count(0, 5)));
        edges.changesNothing("one behind the last", 0, Edges::rich, c -> Edges.bit(c.count(7, 5)));
        edges.yes("the last", Edges.rich().count(6, 5));
        edges.yes("the last of twelve", Edges.full().count(11, 5));
    }

    // ---- promise 16

    private static int nextR(int r) {
        return (int) (r * 1103515245L + 12345L);
    }

    private static int drawnOf(int r, int n) {
        return (int) (Integer.toUnsignedLong(nextR(r)) / 65536 % n);
    }

    private static int seedThatDraws(int due, int n) {
        int seed = 0;
        while (drawnOf(seed, n) != due) {
            seed++;
        }
        return seed;
    }

    private void drawNoneSuch() {
        edges.promise(16);
        int[] none = {-1, 12, 32, MIN, MAX};
        for (int piece : none) {
            edges.changesNothing("draw of " + piece, Edges.THROWN, c -> c.draw(piece));
        }
        edges.changesNothing("the first of none", Edges.THROWN, ClothWithMan::new, c -> c.draw(0));
        edges.changesNothing("one behind the last", Edges.THROWN, Edges::rich, c -> c.draw(7));
        edges.yes("the last", Edges.answer(Edges.rich(), c -> c.draw(6)) != Edges.THROWN);
        ClothWithMan cloth = Edges.rich();
        cloth.draw(6);
        edges.same("a draw counts a PIECE that was not", 127, cloth.told(4));
        edges.same("a draw tells no ROW", 2, cloth.told(8));
    }

    private void drawBothEnds() {
        edges.promise(16);
        ClothWithMan cloth = new ClothWithMan();
        Check.curve(cloth, "0:500");
        cloth.piece(0, 0, 0, 0);
        int[] spans = {1, 2, 20, 59, 60};
        for (int span : spans) {
            cloth.house(0, 7, span);
            int n = 2 * span + 1;
            int[] draws = {0, 1, span, 2 * span - 1, 2 * span};
            for (int due : draws) {
                cloth.seed(seedThatDraws(due, n));
                edges.same("a DRAW of " + due + " by SPAN " + span, 507 + due - span, cloth.draw(0));
                edges.same("COUNTED as it", 507 + due - span, cloth.counted(0));
            }
        }
    }

    private void drawGoesRound() {
        edges.promise(16);
        ClothWithMan cloth = new ClothWithMan();
        cloth.piece(0, 0, 0, 0);
        int[] seeds = {1, 0, -1, MAX, MIN, 0x40000000, 0x7fff0000, 0x80008000, 65535, 65536};
        for (int seed : seeds) {
            cloth.seed(seed);
            edges.same("DRAW by R " + seed, drawnOf(seed, 41) - 20, cloth.draw(0));
            edges.same("R behind " + seed, nextR(seed), cloth.seed(1));
        }
        edges.same("of 1", 1103527590, nextR(1));
        edges.yes("some R are below 0", nextR(-1) < 0);
    }

    private void drawBeyondWhatMayBeTold() {
        edges.promise(16);
        ClothWithMan cloth = new ClothWithMan();
        cloth.piece(0, 0, 0, 0);
        cloth.house(0, -50, 60);
        cloth.seed(seedThatDraws(0, 121));
        edges.same("the least", -110, cloth.draw(0));
        edges.same("the least", -110, cloth.counted(0));
        Check.curve(cloth, "0:999");
        cloth.house(0, 50, 60);
        cloth.seed(seedThatDraws(120, 121));
        edges.same("the greatest", 1109, cloth.draw(0));
    }

    // ---- promise 17

    private void countedNoneSuch() {
        edges.promise(17);
        int[] none = {-1, 12, 32, MIN, MAX};
        for (int piece : none) {
            edges.changesNothing("counted of " + piece, Edges.THROWN, c -> c.counted(piece));
        }
        edges.changesNothing("the first of none", Edges.THROWN, ClothWithMan::new, c -> c.counted(0));
        edges.changesNothing("one that is not COUNTED", Edges.THROWN, Edges::rich, c -> c.counted(6));
        edges.changesNothing("one behind the last", Edges.THROWN, Edges::rich, c -> c.counted(7));
        edges.same("the last of twelve", 101, Edges.full().counted(11));
    }

    private void countedBelowNothing() {
        edges.promise(17);
        ClothWithMan cloth = new ClothWithMan();
        cloth.piece(0, 0, 0, 0);
        cloth.piece(0, 0, 0, 0);
        edges.missing("not COUNTED", () -> cloth.counted(1));
        cloth.count(1, -1);
        edges.same("COUNTED as -1", -1, cloth.counted(1));
        cloth.count(1, 0);
        edges.same("COUNTED as 0", 0, cloth.counted(1));
        edges.missing("the other is not COUNTED", () -> cloth.counted(0));
    }

    // ---- promise 18

    private void likenessSteps() {
        edges.promise(18);
        ClothWithMan cloth = new ClothWithMan();
        // By SPAN 20 a step comes with each 10, by 60 with each 30, by 7 with 4, 7, 11, 14, 18, 21, 25.
        int[] due = {100, 88, 61, 32, 14, 4, 1, 0};
        int[][] steps = {
            {20, 10, 20, 30, 40, 50, 60, 70}, {60, 30, 60, 90, 120, 150, 180, 210}, {7, 4, 7, 11, 14, 18, 21, 25},
            {2, 1, 2, 3, 4, 5, 6, 7}, {59, 30, 59, 89, 118, 148, 177, 207},
        };
        for (int[] s : steps) {
            edges.same("alike", 100, cloth.likeness(300, 300, s[0]));
            for (int d = 1; d < due.length; d++) {
                edges.same("one nearer, by " + s[0], due[d - 1], cloth.likeness(300, 300 + s[d] - 1, s[0]));
                edges.same("as far, by " + s[0], due[d], cloth.likeness(300, 300 + s[d], s[0]));
                edges.same("one nearer, below, by " + s[0], due[d - 1], cloth.likeness(300, 300 - s[d] + 1, s[0]));
                edges.same("as far, below, by " + s[0], due[d], cloth.likeness(300, 300 - s[d], s[0]));
            }
        }
        int[] bySpanOne = {100, 61, 14, 1, 0, 0};
        for (int far = 0; far < bySpanOne.length; far++) {
            edges.same("by SPAN 1", bySpanOne[far], cloth.likeness(-99, far - 99, 1));
        }
    }

    private void likenessOfFarNumbers() {
        edges.promise(18);
        ClothWithMan cloth = new ClothWithMan();
        edges.same("alike", 100, cloth.likeness(MIN, MIN, 1));
        edges.same("alike", 100, cloth.likeness(MAX, MAX, 60));
        edges.same("one apart", 61, cloth.likeness(MAX - 1, MAX, 1));
        int[][] far = {
            {MIN, MAX}, {MAX, MIN}, {MIN, 0}, {0, MIN}, {MAX, 0}, {1 << 30, -(1 << 30)}, {MAX, -1}, {-2, MAX},
        };
        for (int[] f : far) {
            edges.same("as far as ints go", 0, cloth.likeness(f[0], f[1], 60));
            edges.same("as far as ints go", 0, cloth.likeness(f[0], f[1], 1));
        }
    }

    private void likenessSpans() {
        edges.promise(18);
        int[] none = {0, 61, -1, MIN, MAX};
        for (int span : none) {
            edges.changesNothing("SPAN " + span, -1, c -> c.likeness(5, 5, span));
        }
    }

    // ---- promise 19

    private static ClothWithMan straight() {
        ClothWithMan cloth = new ClothWithMan();
        Check.curve(cloth, "0:0;199:199");
        return cloth;
    }

    private void yearsAsFarAsASpan() {
        edges.promise(19);
        ClothWithMan cloth = straight();
        edges.rowed("by SPAN 1", cloth, 1, cloth.years(100, 1), 99, 101);
        edges.rowed("by SPAN 60", cloth, 1, cloth.years(100, 60), 40, 160);
        edges.rowed("the first YEAR alone", cloth, 1, cloth.years(-60, 60), 0, 0);
        edges.rowed("none ahead of it", cloth, 0, cloth.years(-61, 60));
        edges.rowed("the last YEAR alone", cloth, 1, cloth.years(259, 60), 199, 199);
        edges.rowed("none behind it", cloth, 0, cloth.years(260, 60));
        edges.rowed("none", cloth, 0, cloth.years(MIN, 60));
        edges.rowed("none", cloth, 0, cloth.years(MAX, 60));
        Check.curve(cloth, "0:5;1:0;198:0;199:5");
        edges.rowed("the first and the last", cloth, 2, cloth.years(6, 1), 0, 0, 199, 199);
        edges.rowed("all but these", cloth, 1, cloth.years(0, 1), 1, 198);
        edges.rowed("all", cloth, 1, cloth.years(0, 5), 0, 199);
    }

    private void yearsFirstTen() {
        edges.promise(19);
        ClothWithMan cloth = new ClothWithMan();
        Check.curve(cloth, TEN_SLOPES);
        edges.rowed("ten", cloth, 10, cloth.years(4, 1),
                1, 1, 3, 3, 5, 5, 7, 7, 9, 9, 11, 11, 13, 13, 15, 15, 17, 17, 19, 19);
        Check.curve(cloth, TEN_SLOPES + ";22:9");
        edges.rowed("eleven", cloth, 11, cloth.years(4, 1),
                1, 1, 3, 3, 5, 5, 7, 7, 9, 9, 11, 11, 13, 13, 15, 15, 17, 17, 19, 19);
        Check.curve(cloth, TEN_SLOPES + ";22:4");
        edges.rowed("eleven, the last to the end", cloth, 11, cloth.years(4, 1),
                1, 1, 3, 3, 5, 5, 7, 7, 9, 9, 11, 11, 13, 13, 15, 15, 17, 17, 19, 19);
        Check.curve(cloth, TEN_SLOPES.replace(";20:0", ";20:4"));
        edges.rowed("ten, the last to the end", cloth, 10, cloth.years(4, 1),
                1, 1, 3, 3, 5, 5, 7, 7, 9, 9, 11, 11, 13, 13, 15, 15, 17, 17, 20, 199);
        Check.curve(cloth, "0:4");
        edges.rowed("fewer than before", cloth, 1, cloth.years(4, 1), 0, 199);
    }

    private void yearsRefused() {
        edges.promise(19);
        int[] none = {0, 61, -1, MIN, MAX};
        for (int span : none) {
            edges.changesNothing("SPAN " + span, -1, c -> c.years(100, span));
        }
    }

    // ---- promises 20 to 22

    /** VALUES are YEARS; PIECE 0 is counted so, by that SPAN. */
    private static ClothWithMan sharp(int number, int span) {
        ClothWithMan cloth = straight();
        cloth.house(0, 0, span);
        cloth.piece(0, 0, 0, 0);
        cloth.count(0, number);
        return cloth;
    }

    private void likelyFirstAndLastYear() {
        edges.promise(20);
        ClothWithMan cloth = sharp(0, 1);
        // 100 61 14 1.
        edges.rowed("the first YEAR", cloth, 0, cloth.likely(1), 25, 44);
        cloth.count(0, 199);
        edges.rowed("the last YEAR", cloth, 199, cloth.likely(1), 25, 44);
        cloth.count(0, -3);
        edges.rowed("the first YEAR alone", cloth, 0, cloth.likely(1), 1, 1);
    }

    private void likelyLeastWeight() {
        edges.promise(20);
        ClothWithMan cloth = sharp(205, 2);
        edges.rowed("LIKENESS 1 of the last YEAR", cloth, 199, cloth.likely(1), 1, 1);
        cloth.count(0, 206);
        edges.same("one more, and all are 0", -2, cloth.likely(1));
        edges.rowed("it stays", cloth, -2, cloth.within(1, 50), 1, 1);
    }

    private void likelyOfEqualOnes() {
        edges.promise(20);
        ClothWithMan cloth = sharp(100, 20);
        // 91 .. 109 are 9 apart at most.
        edges.same("the first", 91, cloth.likely(1));
        Check.curve(cloth, "0:100");
        edges.rowed("all are equal", cloth, 0, cloth.likely(1), 1, 200);
        Check.curve(cloth, "0:500;1:100;2:500;198:500;199:100");
        edges.rowed("the first of two", cloth, 1, cloth.likely(1), 1, 2);
    }

    /** 200 YEARS of the greatest WEIGHT there is: six times 100. */
    private void greatestWeights() {
        ClothWithMan cloth = sixAlike();
        Check.curve(cloth, "0:100");
        edges.promise(20);
        edges.rowed("the greatest WEIGHTS", cloth, 0, cloth.likely(63), 1, 200);
        edges.promise(21);
        edges.rowed("the greatest WEIGHTS", cloth, 100, cloth.within(63, 50), 0, 99, 1);
        edges.rowed("the greatest WEIGHTS", cloth, 200, cloth.within(63, 100), 0, 199, 1);
        edges.promise(22);
        edges.rowed("the greatest WEIGHTS", cloth, 0, cloth.between(63, 0, 99), 1, 2);
        edges.rowed("the greatest WEIGHTS", cloth, 0, cloth.between(63, 0, 198), 199, 200);
    }

    /** What was told by calls ahead, and PIECES that are not asked, have no say. */
    private void likelyByItsPiecesAlone() {
        ClothWithMan cloth = sharp(0, 1);
        cloth.piece(1, 0, 0, 0);
        cloth.count(1, 199);
        for (int turn = 0; turn < 2; turn++) {
            edges.promise(20);
            edges.rowed("the one", cloth, 0, cloth.likely(1), 25, 44);
            edges.rowed("the other", cloth, 199, cloth.likely(2), 25, 44);
            edges.same("both", -2, cloth.likely(3));
            edges.promise(21);
            edges.rowed("the one", cloth, 4, cloth.within(1, 100), 0, 3, 1);
            edges.rowed("the other", cloth, 4, cloth.within(2, 100), 196, 199, 1);
            edges.promise(22);
            edges.rowed("the one", cloth, 0, cloth.between(1, 1, 199), 19, 44);
            edges.rowed("the other", cloth, 0, cloth.between(2, 0, 198), 19, 44);
            edges.promise(19);
            edges.rowed("all YEARS", cloth, 1, cloth.years(30, 60), 0, 90);
        }
    }

    private void withinHundredths() {
        edges.promise(21);
        ClothWithMan cloth = sharp(100, 20);
        Check.curve(cloth, "0:100");
        int[][] due = {{1, 2}, {2, 4}, {50, 100}, {51, 102}, {99, 198}, {100, 200}};
        for (int[] d : due) {
            edges.rowed(d[0] + " in a hundred", cloth, d[1], cloth.within(1, d[0]), 0, d[1] - 1, 1);
        }
        // Four YEARS with a quarter of it each.
        cloth.count(0, 5);
        Check.curve(cloth, "0:5;1:99;9:99;10:5;11:99;19:99;20:5;21:99;198:99;199:5");
        edges.rowed("a quarter", cloth, 1, cloth.within(1, 25), 0, 0, 1);
        edges.rowed("more than a quarter", cloth, 2, cloth.within(1, 26), 0, 10, 2);
        edges.rowed("half", cloth, 2, cloth.within(1, 50), 0, 10, 2);
        edges.rowed("more than half", cloth, 3, cloth.within(1, 51), 0, 20, 3);
        edges.rowed("three quarters", cloth, 3, cloth.within(1, 75), 0, 20, 3);
        edges.rowed("more than that", cloth, 4, cloth.within(1, 76), 0, 199, 4);
        edges.rowed("all", cloth, 4, cloth.within(1, 100), 0, 199, 4);
    }

    private void withinFirstAndLastYear() {
        edges.promise(21);
        ClothWithMan cloth = sharp(0, 1);
        edges.rowed("the first YEAR", cloth, 1, cloth.within(1, 1), 0, 0, 1);
        edges.rowed("all", cloth, 4, cloth.within(1, 100), 0, 3, 1);
        cloth.count(0, 199);
        edges.rowed("the last YEAR", cloth, 1, cloth.within(1, 56), 199, 199, 1);
        // 100 of 176 are 56.8 in a hundred.
        edges.rowed("one more", cloth, 2, cloth.within(1, 57), 198, 199, 1);
        edges.rowed("all", cloth, 4, cloth.within(1, 100), 196, 199, 1);
    }

    private void withinRefused() {
        edges.promise(21);
        int[] none = {0, 101, -1, MIN, MAX};
        for (int p : none) {
            edges.changesNothing("p " + p, -1, Edges::rich, c -> c.within(1, p));
            edges.changesNothing("p " + p, -1, Edges::full, c -> c.within(2048, p));
            ClothWithMan zero = sharp(1999, 1);
            edges.same("NONE ahead of -2", -1, zero.within(1, p));
        }
    }

    private void betweenBothSides() {
        edges.promise(22);
        ClothWithMan cloth = sharp(0, 1);
        edges.rowed("the first YEAR", cloth, 0, cloth.between(1, 0, 0), 25, 44);
        edges.rowed("all YEARS", cloth, 0, cloth.between(1, 0, 199), 1, 1);
        edges.rowed("the last that counts", cloth, 0, cloth.between(1, 3, 199), 1, 176);
        edges.rowed("none of it", cloth, 0, cloth.between(1, 4, 199), 0, 1);
        cloth.count(0, 199);
        edges.rowed("the last YEAR", cloth, 0, cloth.between(1, 199, 199), 25, 44);
        edges.rowed("all but it", cloth, 0, cloth.between(1, 0, 198), 19, 44);
    }

    private void betweenRefused() {
        edges.promise(22);
        int[][] none = {
            {-1, 5}, {0, 200}, {200, 200}, {-1, -1}, {1, 0}, {199, 198}, {199, 0}, {-1, 200}, {MIN, MAX}, {MAX, MIN},
            {0, MAX}, {MIN, 0},
        };
        for (int[] n : none) {
            edges.changesNothing(n[0] + " to " + n[1], -1, Edges::rich, c -> c.between(1, n[0], n[1]));
            edges.changesNothing(n[0] + " to " + n[1], -1, Edges::full, c -> c.between(2048, n[0], n[1]));
            edges.same("NONE ahead of -2", -1, sharp(1999, 1).between(1, n[0], n[1]));
        }
    }

    private void weighed(String what, long due, Edges.Maker maker, int bits) {
        edges.promise(20);
        edges.changesNothing(what, due, maker, c -> c.likely(bits));
        edges.promise(21);
        edges.changesNothing(what, due, maker, c -> c.within(bits, 50));
        edges.promise(22);
        edges.changesNothing(what, due, maker, c -> c.between(bits, 0, 199));
    }

    private void weighedPieces() {
        int[] none = {0, -1, MIN, MIN | 1, 1 << 12, 1 << 12 | 1, 1 << 30 | 1, MAX};
        for (int bits : none) {
            weighed("PIECES " + bits, -1, ClothWithMan::new, bits);
            weighed("PIECES " + bits, -1, Edges::rich, bits);
            weighed("PIECES " + bits, -1, Edges::full, bits);
        }
        weighed("none told", -1, ClothWithMan::new, 1);
        weighed("one not COUNTED", -1, Edges::rich, 64);
        weighed("one of two not COUNTED", -1, Edges::rich, 65);
        weighed("one behind the last", -1, Edges::rich, 128);
        weighed("seven of them", -1, Edges::full, 127);
        weighed("seven of them", -1, Edges::full, 127 << 5);
        weighed("twelve of them", -1, Edges::full, 4095);
        int[] taken = {1, 2, 32, 3, 63};
        for (int bits : taken) {
            edges.promise(20);
            edges.yes("PIECES " + bits, sixAlike().likely(bits) == 91);
            edges.promise(21);
            edges.yes("PIECES " + bits, sixAlike().within(bits, 1) == 1);
            edges.promise(22);
            edges.yes("PIECES " + bits, sixAlike().between(bits, 0, 199) == 0);
        }
    }

    private static ClothWithMan sixAlike() {
        ClothWithMan cloth = straight();
        for (int i = 0; i < 6; i++) {
            cloth.piece(i, 0, 0, i);
            cloth.count(i, 100);
        }
        return cloth;
    }

    private void allWeightsZero() {
        weighed("all 0", -2, () -> {
            ClothWithMan cloth = sixAlike();
            cloth.count(5, 1999);
            cloth.years(100, 1);
            return cloth;
        }, 63);
        weighed("all 0 of one", -2, () -> {
            ClothWithMan cloth = sixAlike();
            cloth.count(5, -99);
            cloth.years(100, 1);
            return cloth;
        }, 32);
        // Two that are no YEAR's together.
        weighed("all 0 of two", -2, () -> {
            ClothWithMan cloth = sixAlike();
            cloth.count(0, 0);
            cloth.count(1, 199);
            return cloth;
        }, 3);
    }
}
