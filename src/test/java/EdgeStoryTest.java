/** The boundary cases of promises 29 to 36: stories, papers, and their odds. */
public final class EdgeStoryTest {
    private static final int MIN = Edges.MIN;
    private static final int MAX = Edges.MAX;
    /** No STORY is longer. */
    private static final String LONGEST = "s199,090;h5,-099;d-099;m199;w199";

    private final Edges edges = new Edges("EdgeStoryTest", 29, 36);

    public static void main(String[] args) {
        EdgeStoryTest test = new EdgeStoryTest();
        test.storyOfNothing();
        test.storyYears();
        test.storyShares();
        test.storyDrifts();
        test.storyHouses();
        test.storyTermsOnce();
        test.storyEndsTooEarly();
        test.storyWrongSigns();
        test.storyLongTexts();
        test.storiesAreSix();
        test.faithBothSides();
        test.faithNoneSuch();
        test.wouldNoneSuch();
        test.wouldAtTheRimOfItsMend();
        test.wouldLeastAndGreatest();
        test.wouldWhateverIsTold();
        test.paperBothSides();
        test.papersAreFour();
        test.fitsInThePapersYear();
        test.oddsOfOneAndOfSix();
        test.oddsOfOneYearAndOfAny();
        test.noOtherYears();
        test.oddsLeastAndGreatestWeights();
        test.oddsAllZero();
        test.whenFirstAndLastYear();
        test.whenLeastPart();
        test.whenZero();
        test.firstOfFour();
        test.firstOfEqualOnes();
        test.firstNone();
        test.storyPieces();
        test.needsNoneAndAll();
        test.edges.close();
    }

    // ---- promise 29

    private void right(String text, int bits) {
        ClothWithMan cloth = new ClothWithMan();
        edges.same("STORY " + text, 0, Check.story(cloth, text));
        edges.same("STORY " + text + ": emptied", 0, cloth.told(9));
        edges.same("STORY " + text + ": told", 1, cloth.told(5));
        edges.rowed("STORY " + text + ": TERMS", cloth, Integer.bitCount(bits), cloth.needs(0), bits);
    }

    private void wrong(int p, String text) {
        edges.changesNothing("STORY " + text, -1 - p, Edges::rich, c -> {
            Check.write(c, text);
            return c.story();
        }, c -> Edges.bit(c.end(0)));
    }

    private void storyOfNothing() {
        edges.promise(29);
        right("", 0);
        ClothWithMan cloth = new ClothWithMan();
        edges.same("without a sign ever told", 0, cloth.story());
        edges.same("and once more", 1, cloth.story());
        cloth.piece(0, 0, 0, 0);
        edges.same("it leaves what is told", 0, cloth.would(0, 0, 50));
        wrong(0, " ");
        wrong(0, ";");
    }

    private void storyYears() {
        edges.promise(29);
        String[] letters = {"w", "m"};
        for (String letter : letters) {
            int bit = letter.equals("w") ? 1 : 4;
            right(letter + "0", bit);
            right(letter + "199", bit);
            right(letter + "000", bit);
            right(letter + "099", bit);
            wrong(3, letter + "200");
            wrong(3, letter + "999");
            wrong(3, letter + "2000");
            wrong(4, letter + "1000");
            wrong(4, letter + "0000");
            wrong(1, letter + "-1");
            wrong(1, letter);
        }
        right("s0,5", 2);
        right("s199,5", 2);
        right("s099,5", 2);
        wrong(3, "s200,5");
        wrong(3, "s200");
        wrong(4, "s1000,5");
        wrong(1, "s-1,5");
        wrong(1, "s,5");
    }

    private void storyShares() {
        edges.promise(29);
        right("s5,0", 2);
        right("s5,90", 2);
        right("s5,090", 2);
        right("s5,000", 2);
        wrong(4, "s5,91");
        wrong(4, "s5,99");
        wrong(5, "s5,100");
        wrong(5, "s5,091");
        wrong(5, "s5,900");
        wrong(5, "s5,9000");
        wrong(6, "s5,0900");
        wrong(3, "s5,-1");
        wrong(3, "s5,");
        wrong(2, "s5");
        wrong(2, "s5;5");
    }

    private void storyDrifts() {
        edges.promise(29);
        right("d0", 8);
        right("d-0", 8);
        right("d99", 8);
        right("d-99", 8);
        right("d099", 8);
        right("d-099", 8);
        wrong(3, "d100");
        wrong(4, "d-100");
        wrong(3, "d999");
        wrong(4, "d0099");
        wrong(5, "d-0099");
        wrong(1, "d");
        wrong(2, "d-");
        wrong(2, "d--1");
        wrong(1, "d+1");
        wrong(2, "d1-");
    }

    private void storyHouses() {
        edges.promise(29);
        right("h0,0", 16);
        right("h5,99", 16);
        right("h5,-99", 16);
        right("h0,099", 16);
        right("h0,-000", 16);
        wrong(1, "h6,1");
        wrong(1, "h9,1");
        wrong(1, "h-1,1");
        wrong(1, "h,1");
        wrong(1, "h/,1");
        wrong(2, "h00,1");
        wrong(2, "h51,1");
        wrong(5, "h5,100");
        wrong(6, "h5,-100");
        wrong(6, "h5,0099");
        wrong(7, "h5,-0099");
        wrong(3, "h5,");
        wrong(4, "h5,-");
        wrong(4, "h5,--1");
        wrong(2, "h5");
        wrong(1, "h");
    }

    private void storyTermsOnce() {
        edges.promise(29);
        String[] terms = {"w1", "s1,1", "m1", "d1", "h1,1"};
        for (String term : terms) {
            wrong(term.length() + 1, term + ";" + term);
            wrong(term.length() + 1, term + ";" + term.charAt(0));
        }
        right("w1;s1,1;m1;d1;h1,1", 31);
        right("h1,1;d1;m1;s1,1;w1", 31);
        wrong(19, "w1;s1,1;m1;d1;h1,1;w1");
        wrong(19, "w1;s1,1;m1;d1;h1,1;h1,1");
        wrong(19, "w1;s1,1;m1;d1;h1,1;");
        wrong(19, "w1;s1,1;m1;d1;h1,1;x");
        wrong(6, "w1;m2;w3;m4");
        // Told twice is wrong at its letter, ahead of what is wrong behind it.
        wrong(3, "w1;w999");
        wrong(3, "w999;w1");
    }

    private void storyEndsTooEarly() {
        edges.promise(29);
        wrong(3, "w1;");
        wrong(5, "w199;");
        wrong(4, "w1;mx");
        wrong(4, "w1;m");
        wrong(6, "w1;m1;");
        wrong(4, "w1;d");
        wrong(5, "w1;d-");
    }

    private void storyWrongSigns() {
        edges.promise(29);
        String[] first = {"x", "W1", "1", "-", ",", "\u00ff", "\u0000"};
        for (String text : first) {
            wrong(0, text);
        }
        wrong(1, "w/");
        wrong(1, "w:");
        wrong(2, "w1,");
        wrong(2, "w1 ");
        wrong(2, "w1w2");
        wrong(2, "w1:5");
        wrong(3, "w1;;");
        wrong(3, "w1; m1");
        wrong(2, "d1,");
        wrong(4, "s1,1,");
        wrong(4, "h1,1x");
    }

    private void storyLongTexts() {
        edges.promise(29);
        edges.same("signs of the longest", 32, LONGEST.length());
        right(LONGEST, 31);
        wrong(32, LONGEST + "9");
        wrong(32, LONGEST + ":" + "9".repeat(47));
        wrong(33, LONGEST + ";");
        wrong(33, LONGEST + ";" + "w".repeat(6));
        wrong(33, LONGEST + ";" + "w".repeat(7));
        wrong(33, LONGEST + ";" + "w".repeat(8));
        wrong(33, LONGEST + ";" + "w".repeat(47));
        int[] lengths = {39, 40, 41, 79, 80};
        for (int length : lengths) {
            wrong(0, "x".repeat(length));
            wrong(4, "w" + "1".repeat(length - 1));
            wrong(3, "w1;" + ";".repeat(length - 3));
        }
    }

    private void storiesAreSix() {
        edges.promise(29);
        ClothWithMan cloth = new ClothWithMan();
        for (int n = 0; n < 6; n++) {
            edges.same("its number", n, Check.story(cloth, "w" + n));
        }
        edges.same("a seventh", -100, Check.story(cloth, "w6"));
        edges.same("six", 6, cloth.told(5));
        String[] texts = {"w1", "", "x", "w1;w1", LONGEST, "x".repeat(80)};
        for (String text : texts) {
            edges.changesNothing("a seventh: " + text, -100, Edges::full, c -> {
                Check.write(c, text);
                return c.story();
            }, c -> Edges.bit(c.end(0)));
        }
        ClothWithMan late = new ClothWithMan();
        edges.same("wrong", -1, Check.story(late, "x"));
        edges.same("wrong ones take no number", 0, Check.story(late, "w1"));
        edges.same("wrong", -4, Check.story(late, "m1;"));
        edges.same("wrong ones take no number", 1, Check.story(late, "m1"));
    }

    // ---- promise 30

    private void faithBothSides() {
        edges.promise(30);
        ClothWithMan cloth = new ClothWithMan();
        for (int story = 0; story < 6; story++) {
            cloth.story();
            edges.same("at first", 1, cloth.faith(story, 0));
            edges.same("the least", 0, cloth.faith(story, 9));
            edges.same("the greatest", 9, cloth.faith(story, 9 - story));
        }
        for (int story = 0; story < 6; story++) {
            edges.same("each its own", 9 - story, cloth.faith(story, 1));
        }
        int[] none = {-1, 10, MIN, MAX};
        for (int v : none) {
            edges.changesNothing("FAITH " + v, -1, Edges::rich, c -> c.faith(1, v));
            edges.changesNothing("FAITH " + v, -1, Edges::full, c -> c.faith(5, v));
        }
    }

    private void faithNoneSuch() {
        edges.promise(30);
        int[] none = {-1, 6, 7, MIN, MAX};
        for (int story : none) {
            edges.changesNothing("STORY " + story, -1, c -> c.faith(story, 5));
        }
        edges.changesNothing("the first of none", -1, ClothWithMan::new, c -> c.faith(0, 5));
        edges.changesNothing("one behind the last", -1, Edges::rich, c -> c.faith(3, 5));
    }

    // ---- promise 31

    private static ClothWithMan straight() {
        ClothWithMan cloth = new ClothWithMan();
        Check.curve(cloth, "0:0;199:199");
        return cloth;
    }

    private void wouldNoneSuch() {
        edges.promise(31);
        int[] none = {-1, 12, 32, MIN, MAX};
        for (int n : none) {
            edges.changesNothing("STORY " + n, Edges.THROWN, c -> c.would(n, 0, 50));
            edges.changesNothing("PIECE " + n, Edges.THROWN, c -> c.would(0, n, 50));
        }
        int[] years = {-1, 200, MIN, MAX};
        for (int year : years) {
            edges.changesNothing("YEAR " + year, Edges.THROWN, c -> c.would(0, 0, year));
            edges.changesNothing("YEAR " + year + ", whatever w says", Edges.THROWN, Edges::rich,
                    c -> c.would(1, 0, year));
        }
        edges.changesNothing("one behind the last STORY", Edges.THROWN, Edges::rich, c -> c.would(3, 0, 50));
        edges.changesNothing("one behind the last STORY", Edges.THROWN, Edges::full, c -> c.would(6, 0, 50));
        edges.changesNothing("one behind the last PIECE", Edges.THROWN, Edges::rich, c -> c.would(0, 7, 50));
        ClothWithMan cloth = straight();
        cloth.piece(0, 0, 0, 0);
        edges.missing("no STORY", () -> cloth.would(0, 0, 50));
        ClothWithMan other = straight();
        other.story();
        edges.missing("no PIECE", () -> other.would(0, 0, 50));
        other.piece(0, 0, 0, 0);
        edges.same("the first YEAR", 0, other.would(0, 0, 0));
        edges.same("the last YEAR", 199, other.would(0, 0, 199));
        edges.yes("the last of all", Edges.answer(Edges.full(), c -> c.would(5, 11, 199)) != Edges.THROWN);
    }

    private void wouldAtTheRimOfItsMend() {
        edges.promise(31);
        ClothWithMan cloth = straight();
        int[][] in = {{0, 0}, {3, 0}, {0, 1}, {3, 1}};
        int[][] out = {{4, 0}, {4, 1}, {0, 2}, {3, 2}, {4, 2}, {23, 7}};
        Check.story(cloth, "m7");
        for (int i = 0; i < in.length; i++) {
            cloth.piece(in[i][0], in[i][1], 0, 0);
            edges.same("was MENDED", 7, cloth.would(0, i, 50));
        }
        for (int i = 0; i < out.length; i++) {
            cloth.piece(out[i][0], out[i][1], 0, 0);
            edges.same("was not", 50, cloth.would(0, 4 + i, 50));
        }
        Check.story(cloth, "m0");
        edges.same("in the first YEAR", 0, cloth.would(1, 0, 50));
        Check.story(cloth, "m199;w0");
        edges.same("in the last YEAR", 199, cloth.would(2, 0, 50));
        edges.same("woven in the first", 0, cloth.would(2, 4, 50));
    }

    private void wouldLeastAndGreatest() {
        edges.promise(31);
        ClothWithMan cloth = straight();
        cloth.piece(0, 0, 0, 0);
        cloth.piece(23, 7, 3, 5);
        cloth.piece(1, 7, 0, 4);
        int[][] due = {
            {50, 50, 50}, {50, 50 + 99 * 23, 149}, {50, 50 - 99 * 23, -49}, {50, 149, 50}, {149, 50, 50},
            {5, 5, 5},
        };
        String[] texts = {"d0", "d99", "d-99", "h5,99", "h0,99", "s0,90"};
        for (int i = 0; i < texts.length; i++) {
            Check.story(cloth, texts[i]);
            for (int piece = 0; piece < 3; piece++) {
                edges.same(texts[i] + ", PIECE " + piece, due[i][piece], cloth.would(i, piece, 50));
            }
        }
        cloth.way(0, 100);
        cloth.way(3, 100);
        edges.same("no cleaning helps", 5, cloth.would(5, 0, 50));
        edges.same("no cleaning helps", 5, cloth.would(5, 1, 50));
        ClothWithMan other = straight();
        other.piece(0, 0, 0, 0);
        Check.story(other, "s0,0");
        edges.same("none of it", 50, other.would(0, 0, 50));
        Check.story(other, "w199;s199,90;m199;h0,99;d99");
        other.house(0, 50, 1);
        edges.same("the greatest at x 0", 199 + 99 + 50, other.would(1, 0, 0));
        Check.story(other, "w0;s0,90;m0;h0,-99;d-99");
        other.house(0, -50, 1);
        edges.same("the least at x 0", -149, other.would(2, 0, 199));
    }

    private void wouldWhateverIsTold() {
        edges.promise(31);
        ClothWithMan cloth = straight();
        cloth.piece(0, 0, 0, 0);
        Check.story(cloth, "w0");
        Check.story(cloth, "w199");
        edges.same("w of the first YEAR", 0, cloth.would(0, 0, 199));
        edges.same("w of the last YEAR", 199, cloth.would(1, 0, 0));
        cloth.mend(0, 0, 24, 8, 77);
        edges.same("told MENDS are left out", 199, cloth.would(1, 0, 0));
        cloth.stuff(0, 0, 24, 8, 0, 50);
        edges.same("told STUFF is as it is", 99, cloth.would(1, 0, 0));
        cloth.way(0, 100);
        edges.same("cleaned of it", 199, cloth.would(1, 0, 0));
    }

    // ---- promise 32

    private void paperBothSides() {
        edges.promise(32);
        int[][] taken = {{0, 1}, {0, 9}, {199, 1}, {199, 9}};
        for (int[] t : taken) {
            edges.same("SEEN", 0, new ClothWithMan().paper(t[0], true, t[1]));
            edges.same("SILENT", 0, new ClothWithMan().paper(t[0], false, t[1]));
        }
        int[][] refused = {
            {-1, 5}, {200, 5}, {100, 0}, {100, 10}, {100, -1}, {MIN, 5}, {MAX, 5}, {100, MIN}, {100, MAX}, {0, 0},
        };
        for (int[] r : refused) {
            edges.changesNothing("SEEN " + r[0] + " " + r[1], -1, c -> c.paper(r[0], true, r[1]));
            edges.changesNothing("SILENT " + r[0] + " " + r[1], -1, c -> c.paper(r[0], false, r[1]));
        }
    }

    private void papersAreFour() {
        edges.promise(32);
        ClothWithMan cloth = new ClothWithMan();
        for (int n = 0; n < 4; n++) {
            edges.same("its number", n, cloth.paper(n, true, 5));
            edges.same("so many", n + 1, cloth.told(6));
        }
        edges.same("a fifth", -1, cloth.paper(0, true, 5));
        edges.changesNothing("a fifth", -1, Edges::full, c -> c.paper(100, false, 9));
    }

    /** VALUES are YEARS, w100 and w101 are alike to the PIECE, which is COUNTED 100 by SPAN 60. */
    private static ClothWithMan alike() {
        ClothWithMan cloth = straight();
        cloth.house(0, 0, 60);
        cloth.piece(0, 0, 0, 0);
        cloth.count(0, 100);
        Check.story(cloth, "w100");
        Check.story(cloth, "w101");
        return cloth;
    }

    private void fitsInThePapersYear() {
        edges.promise(32);
        ClothWithMan seen = alike();
        seen.paper(100, true, 9);
        edges.rowed("SEEN in the YEAR itself, not later", seen, 0, seen.odds(1), 9, 10, 1, 10);
        ClothWithMan silent = alike();
        silent.paper(100, false, 9);
        edges.rowed("SILENT in the YEAR itself, not later", silent, 1, silent.odds(1), 1, 10, 9, 10);
        ClothWithMan earlier = alike();
        earlier.paper(99, true, 9);
        edges.rowed("both are later", earlier, 0, earlier.odds(1), 1, 2, 1, 2);
        ClothWithMan later = alike();
        later.paper(101, false, 9);
        edges.rowed("neither is later", later, 0, later.odds(1), 1, 2, 1, 2);
        ClothWithMan little = alike();
        little.paper(100, true, 1);
        edges.rowed("TRUST 1 tells against it", little, 1, little.odds(1), 1, 10, 9, 10);
        ClothWithMan half = alike();
        half.paper(100, true, 5);
        edges.rowed("TRUST 5 tells nothing", half, 0, half.odds(1), 1, 2, 1, 2);
    }

    // ---- promise 33

    private void oddsOfOneAndOfSix() {
        edges.promise(33);
        ClothWithMan cloth = straight();
        cloth.house(0, 0, 60);
        for (int i = 0; i < 5; i++) {
            cloth.piece(0, i, 0, 0);
            cloth.count(i, 100);
        }
        edges.same("no STORIES", -1, cloth.odds(1));
        Check.story(cloth, "w100");
        edges.rowed("one", cloth, 0, cloth.odds(1), 1, 1);
        for (int i = 1; i < 6; i++) {
            Check.story(cloth, "w100;d" + i);
        }
        edges.rowed("six, one PIECE", cloth, 0, cloth.odds(1), 1, 6, 1, 6, 1, 6, 1, 6, 1, 6, 1, 6);
        edges.rowed("six, four PIECES", cloth, 0, cloth.odds(15), 1, 6, 1, 6, 1, 6, 1, 6, 1, 6, 1, 6);
        edges.rowed("six, the last PIECES", cloth, 0, cloth.odds(30), 1, 6, 1, 6, 1, 6, 1, 6, 1, 6, 1, 6);
        edges.same("five PIECES", -1, cloth.odds(31));
        cloth.faith(5, 2);
        edges.rowed("the last", cloth, 5, cloth.odds(1), 1, 7, 1, 7, 1, 7, 1, 7, 1, 7, 2, 7);
        for (int i = 0; i < 5; i++) {
            cloth.faith(i, 0);
        }
        edges.rowed("the last alone", cloth, 5, cloth.odds(1), 0, 1, 0, 1, 0, 1, 0, 1, 0, 1, 1, 1);
    }

    private void oddsOfOneYearAndOfAny() {
        edges.promise(33);
        ClothWithMan cloth = new ClothWithMan();
        Check.curve(cloth, "0:100");
        cloth.piece(0, 0, 0, 0);
        cloth.count(0, 100);
        Check.story(cloth, "");
        Check.story(cloth, "w0");
        Check.story(cloth, "w199");
        edges.rowed("200 YEARS by 1, 1 by 200", cloth, 0, cloth.odds(1), 1, 3, 1, 3, 1, 3);
        // Any YEAR has all 200 of them: the first alone, the last alone count 1 of 200.
        Check.curve(cloth, "0:100;1:500");
        edges.rowed("the first YEAR alone", cloth, 1, cloth.odds(1), 1, 201, 200, 201, 0, 1);
        Check.curve(cloth, "198:500;199:100");
        edges.rowed("the last YEAR alone", cloth, 2, cloth.odds(1), 1, 201, 0, 1, 200, 201);
    }

    /** No YEAR lies ahead of the first or behind the last: all VALUES are 500, none is 0. */
    private void noOtherYears() {
        ClothWithMan cloth = new ClothWithMan();
        Check.curve(cloth, "0:500");
        cloth.piece(0, 0, 0, 0);
        Check.story(cloth, "");
        edges.promise(33);
        int[] others = {-99, -1, 0, 1, 1000};
        for (int number : others) {
            cloth.count(0, number);
            edges.same("COUNTED " + number, -2, cloth.odds(1));
            edges.promise(34);
            edges.same("COUNTED " + number, -2, cloth.when(0, 1));
        }
    }

    private void oddsLeastAndGreatestWeights() {
        edges.promise(33);
        ClothWithMan least = straight();
        least.house(0, 0, 1);
        least.piece(0, 0, 0, 0);
        least.count(0, 202);
        Check.story(least, "");
        edges.rowed("a WEIGHT of 1", least, 0, least.odds(1), 1, 1);
        Check.story(least, "w199");
        edges.rowed("1 and 200", least, 1, least.odds(1), 1, 201, 200, 201);
        ClothWithMan greatest = new ClothWithMan();
        for (int i = 0; i < 4; i++) {
            greatest.piece(0, 0, 0, 0);
            greatest.count(i, 0);
            greatest.paper(199, true, 9);
        }
        for (int i = 0; i < 6; i++) {
            greatest.story();
            greatest.faith(i, 9);
        }
        edges.rowed("as great as can be", greatest, 0, greatest.odds(15), 1, 6, 1, 6, 1, 6, 1, 6, 1, 6, 1, 6);
    }

    private static ClothWithMan withRow(ClothWithMan cloth) {
        cloth.years(100, 1);
        return cloth;
    }

    private void oddsAllZero() {
        edges.promise(33);
        edges.changesNothing("no FAITH", -2, () -> {
            ClothWithMan cloth = alike();
            cloth.faith(0, 0);
            cloth.faith(1, 0);
            return withRow(cloth);
        }, c -> c.odds(1));
        edges.changesNothing("no LIKENESS", -2, () -> {
            ClothWithMan cloth = alike();
            cloth.count(0, 1999);
            return withRow(cloth);
        }, c -> c.odds(1));
        edges.changesNothing("no FAITH in the one that is alike", -2, () -> {
            ClothWithMan cloth = alike();
            cloth.house(0, 0, 1);
            cloth.count(0, 97);
            cloth.faith(0, 0);
            return withRow(cloth);
        }, c -> c.odds(1));
        ClothWithMan zero = alike();
        zero.count(0, 1999);
        zero.piece(1, 0, 0, 0);
        edges.same("NONE ahead of -2", -1, zero.odds(3));
        edges.same("NONE ahead of -2", -1, zero.odds(0));
    }

    // ---- promise 34

    private void whenFirstAndLastYear() {
        edges.promise(34);
        ClothWithMan cloth = alike();
        cloth.house(0, 0, 1);
        int any = Check.story(cloth, "");
        cloth.count(0, 0);
        edges.same("the first YEAR", 0, cloth.when(any, 1));
        cloth.count(0, 199);
        edges.same("the last YEAR", 199, cloth.when(any, 1));
        Check.curve(cloth, "0:199");
        edges.same("of equal ones the first", 0, cloth.when(any, 1));
        cloth.paper(199, false, 5);
        edges.same("of equal ones the first", 0, cloth.when(any, 1));
        cloth.paper(198, false, 6);
        edges.same("the last YEAR by a PAPER", 199, cloth.when(any, 1));
        edges.same("its own", 100, cloth.when(0, 1));
        int first = Check.story(cloth, "w0");
        int last = Check.story(cloth, "w199");
        edges.same("its own, the first", 0, cloth.when(first, 1));
        edges.same("its own, the last", 199, cloth.when(last, 1));
    }

    private void whenLeastPart() {
        edges.promise(34);
        ClothWithMan cloth = alike();
        cloth.house(0, 0, 1);
        cloth.count(0, 103);
        edges.same("LIKENESS 1", 100, cloth.when(0, 1));
        cloth.count(0, 104);
        edges.same("one more", -2, cloth.when(0, 1));
        edges.same("LIKENESS 1", 101, cloth.when(1, 1));
        int any = Check.story(cloth, "");
        cloth.count(0, 202);
        edges.same("LIKENESS 1 in the last YEAR", 199, cloth.when(any, 1));
        cloth.count(0, -3);
        edges.same("LIKENESS 1 in the first YEAR", 0, cloth.when(any, 1));
        cloth.count(0, -4);
        edges.same("one less", -2, cloth.when(any, 1));
    }

    private void whenZero() {
        edges.promise(34);
        edges.changesNothing("no LIKENESS", -2, () -> {
            ClothWithMan cloth = alike();
            cloth.count(0, 1999);
            return withRow(cloth);
        }, c -> c.when(0, 1));
        ClothWithMan cloth = alike();
        cloth.faith(0, 0);
        edges.same("FAITH aside", 100, cloth.when(0, 1));
        int[] none = {-1, 2, 6, MIN, MAX};
        for (int story : none) {
            edges.changesNothing("STORY " + story, -1, () -> withRow(alike()), c -> c.when(story, 1));
        }
        edges.changesNothing("one behind the last", -1, Edges::rich, c -> c.when(3, 1));
        edges.changesNothing("one behind the last", -1, Edges::full, c -> c.when(6, 1));
        edges.changesNothing("no STORIES", -1, ClothWithMan::new, c -> c.when(0, 0));
        ClothWithMan zero = alike();
        zero.count(0, 1999);
        edges.same("NONE ahead of -2", -1, zero.when(2, 1));
        edges.same("NONE ahead of -2", -1, zero.when(0, 2));
    }

    // ---- promise 35

    private void firstOfFour() {
        edges.promise(35);
        for (int at = 0; at < 4; at++) {
            ClothWithMan cloth = alike();
            cloth.faith(0, 2);
            for (int paper = 0; paper < 4; paper++) {
                cloth.paper(paper == at ? 100 : 150, paper != at, 9);
            }
            edges.same("the greatest with it", 1, cloth.odds(1));
            edges.rowed("the PAPER " + at, cloth, at, cloth.first(1), 0);
        }
        ClothWithMan both = alike();
        both.faith(0, 4);
        both.paper(100, false, 7);
        both.paper(100, false, 7);
        edges.rowed("the first of two such", both, 0, both.first(1), 0);
    }

    private void firstOfEqualOnes() {
        edges.promise(35);
        ClothWithMan cloth = alike();
        cloth.paper(100, false, 6);
        edges.rowed("without it both are equal: the first", cloth, 0, cloth.first(1), 0);
        edges.changesNothing("without it both are equal: the same", -2, () -> {
            ClothWithMan same = alike();
            same.paper(100, true, 9);
            return withRow(same);
        }, c -> c.first(1));
    }

    private void firstNone() {
        edges.promise(35);
        edges.changesNothing("no PAPERS", -2, () -> withRow(alike()), c -> c.first(1));
        edges.changesNothing("one STORY", -2, () -> {
            ClothWithMan cloth = alike();
            cloth.faith(1, 0);
            cloth.paper(100, true, 1);
            return withRow(cloth);
        }, c -> c.first(1));
        edges.changesNothing("all WEIGHTS are 0", -2, () -> {
            ClothWithMan cloth = alike();
            cloth.paper(100, false, 9);
            cloth.count(0, 1999);
            return withRow(cloth);
        }, c -> c.first(1));
        edges.changesNothing("no FAITH in any", -2, () -> {
            ClothWithMan cloth = alike();
            cloth.paper(100, false, 9);
            cloth.faith(0, 0);
            cloth.faith(1, 0);
            return withRow(cloth);
        }, c -> c.first(1));
    }

    private void storyPieces() {
        int[] none = {0, -1, MIN, MIN | 1, 1 << 12, 1 << 12 | 1, 1 << 30 | 1, MAX, 31, 31 << 7, 63, 4095};
        for (int bits : none) {
            edges.promise(33);
            edges.changesNothing("PIECES " + bits, -1, c -> c.odds(bits));
            edges.promise(34);
            edges.changesNothing("PIECES " + bits, -1, c -> c.when(0, bits));
            edges.promise(35);
            edges.changesNothing("PIECES " + bits, -1, c -> c.first(bits));
        }
        int[] uncounted = {64, 65, 128, 129};
        for (int bits : uncounted) {
            edges.promise(33);
            edges.changesNothing("not COUNTED " + bits, -1, Edges::rich, c -> c.odds(bits));
            edges.promise(34);
            edges.changesNothing("not COUNTED " + bits, -1, Edges::rich, c -> c.when(0, bits));
            edges.promise(35);
            edges.changesNothing("not COUNTED " + bits, -1, Edges::rich, c -> c.first(bits));
        }
        Edges.Maker untold = () -> {
            ClothWithMan cloth = straight();
            cloth.piece(0, 0, 0, 0);
            cloth.count(0, 100);
            return withRow(cloth);
        };
        edges.promise(33);
        edges.changesNothing("no STORIES", -1, untold, c -> c.odds(1));
        edges.promise(34);
        edges.changesNothing("no STORIES", -1, untold, c -> c.when(0, 1));
        edges.promise(35);
        edges.changesNothing("no STORIES", -1, untold, c -> c.first(1));
        edges.promise(34);
        ClothWithMan four = Edges.full();
        edges.yes("four PIECES", four.when(0, 15 << 8) != -1);
        edges.promise(35);
        edges.yes("four PIECES", four.first(15 << 8) != -1);
    }

    // ---- promise 36

    private void needsNoneAndAll() {
        edges.promise(36);
        ClothWithMan cloth = new ClothWithMan();
        Check.story(cloth, "");
        Check.story(cloth, LONGEST);
        String[] terms = {"w0", "d0", "h0,0", "s0,0"};
        int[] bits = {1, 8, 16, 2};
        edges.rowed("none", cloth, 0, cloth.needs(0), 0);
        edges.rowed("all", cloth, 5, cloth.needs(1), 31);
        for (int i = 0; i < 4; i++) {
            Check.story(cloth, terms[i]);
            edges.rowed(terms[i], cloth, 1, cloth.needs(2 + i), bits[i]);
        }
        int[] none = {-1, 6, 7, MIN, MAX};
        for (int story : none) {
            edges.changesNothing("STORY " + story, -1, c -> c.needs(story));
        }
        edges.changesNothing("the first of none", -1, ClothWithMan::new, c -> c.needs(0));
        edges.changesNothing("one behind the last", -1, Edges::rich, c -> c.needs(3));
    }
}
