/** Promises 29 to 36: stories, papers, and their odds. */
public final class StoryTest {
    private static final int MIN = Integer.MIN_VALUE;

    private final Check check = new Check("StoryTest");

    public static void main(String[] args) {
        StoryTest test = new StoryTest();
        test.rightTexts();
        test.wrongTexts();
        test.longTexts();
        test.sixStories();
        test.faiths();
        test.woulds();
        test.wouldTogether();
        test.wouldNone();
        test.papers();
        test.oddsByCounts();
        test.oddsByPapers();
        test.oddsRefused();
        test.whens();
        test.firsts();
        test.needs();
        test.check.close();
    }

    private void rightTexts() {
        String[] texts = {
            "", "w0", "w199", "w007", "s0,0", "s199,90", "s5,090", "m0", "m199", "d0", "d-0", "d99",
            "d-99", "d099", "h0,0", "h5,-99", "h5,099", "w1;s1,1;m1;d1;h1,1",
            "h1,-1;d-1;m1;s1,1;w1", "s199,090;h5,-099;d-099;m199;w199",
        };
        for (String text : texts) {
            ClothWithMan cloth = new ClothWithMan();
            check.same("story: " + text, 0, Check.story(cloth, text));
            check.same("story: emptied: " + text, 0, cloth.told(9));
            check.same("story: told: " + text, 1, cloth.told(5));
            int terms = text.isEmpty() ? 0 : text.split(";").length;
            check.same("needs: " + text, terms, cloth.needs(0));
        }
    }

    private void wrong(int p, String text) {
        ClothWithMan cloth = new ClothWithMan();
        cloth.needs(Check.story(cloth, "w1"));
        check.same("story wrong: " + text, -1 - p, Check.story(cloth, text));
        check.same("story wrong: emptied: " + text, 0, cloth.told(9));
        check.same("story wrong: not told: " + text, 1, cloth.told(5));
        check.row("story wrong: row: " + text, cloth, 1);
        check.same("story: not harmed: " + text, 1, Check.story(cloth, "w1"));
    }

    private void wrongTexts() {
        wrong(0, "x");
        wrong(0, "W1");
        wrong(0, ";");
        wrong(0, " ");
        wrong(1, "w");
        wrong(1, "w-1");
        wrong(1, "wx");
        wrong(3, "w200");
        wrong(3, "w2000");
        wrong(4, "w1000");
        wrong(4, "w0001");
        wrong(3, "w20,5");
        wrong(3, "w1;");
        wrong(3, "w1;;");
        wrong(3, "w1;x");
        wrong(3, "w1;w1");
        wrong(3, "w1;w");
        wrong(2, "w1 ");
        wrong(1, "s");
        wrong(2, "s1");
        wrong(2, "s1;1");
        wrong(3, "s1,");
        wrong(4, "s1,91");
        wrong(5, "s1,100");
        wrong(6, "s1,0000");
        wrong(3, "s1,-1");
        wrong(3, "s200,1");
        wrong(1, "s,1");
        wrong(3, "m200");
        wrong(1, "m");
        wrong(1, "m-1");
        wrong(1, "d");
        wrong(2, "d-");
        wrong(2, "d--1");
        wrong(3, "d100");
        wrong(4, "d-100");
        wrong(4, "d0000");
        wrong(1, "d+1");
        wrong(1, "h");
        wrong(1, "h6,1");
        wrong(1, "h-1,1");
        wrong(2, "h1");
        wrong(2, "h11,1");
        wrong(3, "h1,");
        wrong(4, "h1,-");
        wrong(4, "h1,-x");
        wrong(5, "h1,100");
        wrong(6, "h1,-100");
        wrong(6, "h1,0000");
        wrong(18, "w1;s1,1;m1;d1;h1,1x");
        wrong(19, "w1;s1,1;m1;d1;h1,1;");
        wrong(19, "w1;s1,1;m1;d1;h1,1;h1,1");
        wrong(19, "w1;s1,1;m1;d1;h1,1;x");
        wrong(5, "s1,1;s1,1");
        wrong(6, "m1;d1;m1");
        wrong(6, "d1;m1;d1");
        wrong(5, "h1,1;h1,1");
    }

    private void longTexts() {
        String most = "s199,090;h5,-099;d-099;m199;w199";
        check.same("signs of the longest", 32, most.length());
        wrong(32, most + "9");
        wrong(33, most + ";");
        wrong(33, most + ";1234567890");
        wrong(0, "xxxxxxxxxxxxxxxxxxxxxxxxxxxxxxxxxxxxxxxxxxxxxxxxxx");
        wrong(2, "w1xxxxxxxxxxxxxxxxxxxxxxxxxxxxxxxxxxxxxxxxxxxxxxxxx");
        wrong(33, most + ";" + most);
    }

    private void sixStories() {
        ClothWithMan cloth = new ClothWithMan();
        for (int n = 0; n < 6; n++) {
            check.same("story", n, Check.story(cloth, "w" + n));
        }
        check.same("story: 6", -100, Check.story(cloth, "w7"));
        check.same("story: 6, emptied", 0, cloth.told(9));
        check.same("story: 6 is asked first", -100, Check.story(cloth, "x"));
        check.same("story: 6, an empty text", -100, cloth.story());
        check.same("stories", 6, cloth.told(5));
    }

    private void faiths() {
        ClothWithMan cloth = new ClothWithMan();
        check.same("faith: none such", -1, cloth.faith(0, 1));
        Check.story(cloth, "");
        check.same("faith", 1, cloth.faith(0, 9));
        check.same("faith", 9, cloth.faith(0, 0));
        check.same("faith", 0, cloth.faith(0, 5));
        check.same("faith: above", -1, cloth.faith(0, 10));
        check.same("faith: below", -1, cloth.faith(0, -1));
        check.same("faith: none such", -1, cloth.faith(1, 1));
        check.same("faith: none such", -1, cloth.faith(-1, 1));
        check.same("faith: stays", 5, cloth.faith(0, 1));
    }

    /** VALUES are YEARS; PIECES at (3, 1), (4, 1), (3, 2) by HOUSES 0, 1, 2. */
    private static ClothWithMan straight() {
        ClothWithMan cloth = new ClothWithMan();
        Check.curve(cloth, "0:0;199:199");
        cloth.piece(3, 1, 0, 0);
        cloth.piece(4, 1, 0, 1);
        cloth.piece(3, 2, 0, 2);
        return cloth;
    }

    private void would(ClothWithMan cloth, String text, int year, int... due) {
        int story = Check.story(cloth, text);
        for (int piece = 0; piece < due.length; piece++) {
            check.same("would: " + text + ", piece " + piece, due[piece], cloth.would(story, piece, year));
        }
    }

    private void woulds() {
        ClothWithMan cloth = straight();
        would(cloth, "", 50, 50, 50, 50);
        would(cloth, "w120", 50, 120, 120, 120);
        would(cloth, "m150", 50, 150, 50, 50);
        would(cloth, "d-7", 50, 29, 22, 29);
        would(cloth, "h1,30", 50, 50, 80, 50);
        would(cloth, "s150,33", 50, 83, 83, 83);
        check.same("would: another year", 60, cloth.would(0, 0, 60));
        check.same("would: w's year, whatever is told", 120, cloth.would(1, 0, 60));
        check.same("would: whatever is woven", 50, cloth.would(0, 0, 50) + 0 * cloth.woven(7));
        check.same("would: whatever is woven", 50, cloth.would(0, 0, 50));
        cloth.mend(0, 0, 24, 8, 10);
        check.same("would: told mends are left out", 50, cloth.would(0, 0, 50));
        check.same("would: its own mend", 150, cloth.would(2, 0, 50));
        cloth.house(0, -20, 20);
        check.same("would: slip", 30, cloth.would(0, 0, 50));
    }

    private void wouldTogether() {
        ClothWithMan cloth = straight();
        cloth.piece(3, 1, 1, 0);
        cloth.way(1, 100);
        cloth.stuff(3, 1, 1, 1, 150, 50);
        cloth.house(0, 9, 20);
        // 50 with 50 of 150: 100, with 33 of 0: 67; then 9, 3 times 2, -5.
        would(cloth, "s0,33;d2;h0,-5", 50, 67 + 9 + 6 - 5, 33 + 8, 33 + 6);
        // Cleaned by a way that takes all: 50 with 33 of 0 all the same.
        check.same("would: no cleaning helps", 33 + 9 + 6 - 5, cloth.would(0, 3, 50));
        // Told stuff first, then s: the other way round it would be 83.
        would(cloth, "s190,0", 50, 100 + 9);
        // 90 with half of 150: 120; with a tenth of 0: 108.
        would(cloth, "m90;s0,10", 7, 108 + 9);
        would(cloth, "w0;d-99;h0,-99", 7, 75 + 9 - 297 - 99);
        would(cloth, "w199;h1,99;d99", 7, 174 + 9 + 297, 199 + 396 + 99);
    }

    private void wouldNone() {
        ClothWithMan cloth = straight();
        check.missing("would: no story", () -> cloth.would(0, 0, 50));
        Check.story(cloth, "w1");
        check.missing("would: no story", () -> cloth.would(1, 0, 50));
        check.missing("would: no story", () -> cloth.would(-1, 0, 50));
        check.missing("would: no piece", () -> cloth.would(0, 3, 50));
        check.missing("would: no piece", () -> cloth.would(0, -1, 50));
        check.missing("would: no year", () -> cloth.would(0, 0, -1));
        check.missing("would: no year", () -> cloth.would(0, 0, 200));
        check.same("would: the last year", 1, cloth.would(0, 0, 199));
    }

    private void papers() {
        ClothWithMan cloth = new ClothWithMan();
        int[][] refused = {{-1, 1}, {200, 1}, {0, 0}, {0, 10}, {0, MIN}};
        for (int[] r : refused) {
            check.same("paper refused", -1, cloth.paper(r[0], true, r[1]));
            check.same("paper refused", -1, cloth.paper(r[0], false, r[1]));
        }
        check.same("papers", 0, cloth.told(6));
        for (int n = 0; n < 4; n++) {
            check.same("paper", n, cloth.paper(199, n % 2 == 0, 1 + 8 * (n % 2)));
        }
        check.same("paper: 4", -1, cloth.paper(0, true, 5));
        check.same("papers", 4, cloth.told(6));
    }

    /** By span 1 the PIECE at x 0 is alike to 5 YEARS: 14, 61, 100, 61, 14 and 1 at each end. */
    private static ClothWithMan sharp(int number) {
        ClothWithMan cloth = new ClothWithMan();
        Check.curve(cloth, "0:0;199:199");
        cloth.house(0, 0, 1);
        cloth.piece(0, 0, 0, 0);
        cloth.count(0, number);
        return cloth;
    }

    private void oddsByCounts() {
        ClothWithMan cloth = sharp(100);
        int any = 1 + 14 + 61 + 100 + 61 + 14 + 1;
        Check.story(cloth, "");
        check.rowed("odds: one story", cloth, 0, cloth.odds(1), 1, 1);
        Check.story(cloth, "w100");
        check.rowed("odds: any year, one year", cloth, 1, cloth.odds(1), any / 4, 20252 / 4, 5000, 20252 / 4);
        cloth.faith(1, 0);
        check.rowed("odds: no faith", cloth, 0, cloth.odds(1), 1, 1, 0, 1);
        cloth.faith(0, 0);
        check.same("odds: no faith in any", -2, cloth.odds(1));
        cloth.faith(0, 2);
        cloth.faith(1, 1);
        Check.story(cloth, "w101");
        Check.story(cloth, "w104");
        Check.story(cloth, "w100;h0,0");
        long all = 2 * any + 20000 + 12200 + 20000;
        check.same("odds: of equal ones the first", 1, cloth.odds(1));
        check.same("odds: numbers of the row", 10, cloth.told(8));
        check.same("odds: faith", 2 * any * cloth.row(1), all * cloth.row(0));
        check.same("odds: far off", 0, cloth.row(6));
        check.same("odds: far off", 1, cloth.row(7));
        check.same("odds: the last", 20000 * cloth.row(9), all * cloth.row(8));
        cloth.piece(0, 0, 0, 0);
        cloth.count(1, 101);
        all = 20000L * 61 + 12200L * 100 + 20000L * 61
                + 2 * (14 + 14 * 61 + 61 * 100 + 100 * 61 + 61 * 14 + 14);
        check.same("odds: two pieces", 1, cloth.odds(3));
        check.same("odds: two pieces", 20000L * 61 * cloth.row(3), all * cloth.row(2));
        cloth.house(0, 1, 1);
        // The number is told with its slip: w100 would now count 101.
        cloth.count(0, 101);
        check.same("odds: with slips", 1, cloth.odds(1));
        cloth.count(0, 1999);
        check.same("odds: all 0", -2, cloth.odds(1));
    }

    private void oddsByPapers() {
        ClothWithMan cloth = sharp(100);
        cloth.house(0, 0, 60);
        Check.story(cloth, "w100");
        Check.story(cloth, "w101");
        cloth.paper(100, true, 9);
        check.rowed("odds: seen", cloth, 0, cloth.odds(1), 9, 10, 1, 10);
        cloth.paper(100, false, 8);
        check.rowed("odds: seen and silent", cloth, 0, cloth.odds(1), 9, 13, 4, 13);
        cloth.paper(101, true, 1);
        check.rowed("odds: a paper of both", cloth, 0, cloth.odds(1), 9, 13, 4, 13);
        cloth.paper(99, false, 1);
        check.rowed("odds: a paper of both", cloth, 0, cloth.odds(1), 9, 13, 4, 13);
    }

    private void oddsRefused() {
        ClothWithMan cloth = sharp(100);
        check.same("odds: no stories", -1, cloth.odds(1));
        check.same("first: no stories", -1, cloth.first(1));
        check.same("when: no stories", -1, cloth.when(0, 1));
        cloth.needs(Check.story(cloth, "d0"));
        for (int i = 1; i < 5; i++) {
            cloth.piece(i, 0, 0, 0);
            cloth.count(i, 100);
        }
        cloth.piece(9, 0, 0, 0);
        int[] none = {0, 31, 32, 33, 64, -1, MIN, 1 << 12 | 1};
        for (int bits : none) {
            check.same("odds: none such " + bits, -1, cloth.odds(bits));
            check.same("first: none such " + bits, -1, cloth.first(bits));
            check.same("when: none such " + bits, -1, cloth.when(0, bits));
        }
        check.same("when: no such story", -1, cloth.when(1, 1));
        check.same("when: no such story", -1, cloth.when(-1, 1));
        cloth.count(0, 1999);
        check.same("odds: all 0", -2, cloth.odds(1));
        check.same("first: all 0", -2, cloth.first(1));
        check.same("when: 0", -2, cloth.when(0, 1));
        check.row("the row stays", cloth, 8);
        check.same("odds: four pieces", 0, cloth.odds(30));
    }

    private void whens() {
        ClothWithMan cloth = sharp(100);
        Check.story(cloth, "");
        Check.story(cloth, "w102");
        Check.story(cloth, "h0,10");
        Check.story(cloth, "w107");
        Check.story(cloth, "w0;h0,99");
        cloth.needs(1);
        check.same("when", 100, cloth.when(0, 1));
        check.same("when: its own year", 102, cloth.when(1, 1));
        check.same("when: a house off", 90, cloth.when(2, 1));
        check.same("when: 0", -2, cloth.when(3, 1));
        check.same("when: the year 0", 0, cloth.when(4, 1));
        cloth.faith(0, 0);
        check.same("when: faith aside", 100, cloth.when(0, 1));
        check.row("when: the row stays", cloth, 1);
        cloth.house(0, 0, 10);
        check.same("when: of equal ones the first", 96, cloth.when(0, 1));
        cloth.paper(103, false, 9);
        check.same("when: papers", 104, cloth.when(0, 1));
        cloth.paper(98, true, 9);
        check.same("when: papers against one another", 96, cloth.when(0, 1));
        cloth.woven(5);
        check.same("when: whatever is woven", 96, cloth.when(0, 1));
    }

    private void firsts() {
        ClothWithMan cloth = sharp(100);
        cloth.house(0, 0, 60);
        Check.story(cloth, "w100");
        Check.story(cloth, "w101");
        cloth.needs(0);
        check.same("first: no papers", -2, cloth.first(1));
        cloth.paper(150, true, 9);
        check.same("first: no such paper", -2, cloth.first(1));
        check.row("first: the row stays", cloth, 1);
        cloth.paper(100, false, 6);
        check.same("odds", 1, cloth.odds(1));
        check.rowed("first", cloth, 1, cloth.first(1), 0);
        ClothWithMan zero = sharp(100);
        zero.house(0, 0, 60);
        Check.story(zero, "w100");
        Check.story(zero, "w101");
        zero.paper(100, false, 6);
        check.rowed("first: the paper 0", zero, 0, zero.first(1), 0);
        cloth.paper(100, false, 6);
        check.same("first: one alone does not do it", -2, cloth.first(1));
        cloth.paper(100, true, 7);
        // 7 * 4 * 4 for w100, 3 * 6 * 6 for w101: without a silent one 28 to 18 still; without the seen one 16 to 36.
        check.same("odds", 0, cloth.odds(1));
        check.rowed("first: the first such", cloth, 3, cloth.first(1), 1);
    }

    private void needs() {
        ClothWithMan cloth = new ClothWithMan();
        check.same("needs: none", -1, cloth.needs(0));
        String[] texts = {"w5", "s5,5", "m5", "d5", "h5,5", ""};
        for (int i = 0; i < texts.length; i++) {
            int story = Check.story(cloth, texts[i]);
            check.rowed("needs: " + texts[i], cloth, i < 5 ? 1 : 0, cloth.needs(story), i < 5 ? 1 << i : 0);
        }
        check.same("needs: none such", -1, cloth.needs(6));
        check.same("needs: none such", -1, cloth.needs(-1));
        check.row("needs: the row stays", cloth, 0);
        ClothWithMan other = new ClothWithMan();
        Check.story(other, "h1,1;d1;w1");
        check.rowed("needs: three", other, 3, other.needs(0), 1 + 8 + 16);
        Check.story(other, "h1,1;d1;m1;s1,1;w1");
        check.rowed("needs: five", other, 5, other.needs(1), 31);
    }
}
