/** The boundary cases of promises 23 to 28: houses that differ, younger stuff. */
public final class EdgeHouseTest {
    private static final int MIN = Edges.MIN;
    private static final int MAX = Edges.MAX;

    private final Edges edges = new Edges("EdgeHouseTest", 23, 28);

    public static void main(String[] args) {
        EdgeHouseTest test = new EdgeHouseTest();
        test.apartTwo();
        test.apartThree();
        test.apartFour();
        test.apartNothing();
        test.apartRefused();
        test.slopeUpAndDownByTheLeast();
        test.slopeOfTwoAndOfSix();
        test.slopeAllAlike();
        test.slopeRefused();
        test.lotOfTwoAndOfSix();
        test.lotAtLeast();
        test.lotRefused();
        test.oddOfThreeAndOfFour();
        test.oddOfEqualOnes();
        test.oddRefused();
        test.youngerBothEnds();
        test.youngerRefused();
        test.mustBothEnds();
        test.mustOfEqualOnes();
        test.mustRefused();
        test.edges.close();
    }

    /** PIECES at x 0, 1, 2 .. by one HOUSE of that SPAN, COUNTED as told. */
    private static ClothWithMan strip(int span, int... numbers) {
        ClothWithMan cloth = new ClothWithMan();
        cloth.house(0, 0, span);
        for (int i = 0; i < numbers.length; i++) {
            cloth.piece(i, 0, 0, 0);
            cloth.count(i, numbers[i]);
        }
        return cloth;
    }

    private static ClothWithMan two(int span, int other, int number) {
        ClothWithMan cloth = strip(span, 0);
        cloth.house(1, 0, other);
        cloth.piece(1, 0, 0, 1);
        cloth.count(1, number);
        return cloth;
    }

    // ---- promise 23

    private void apartTwo() {
        edges.promise(23);
        ClothWithMan below = two(24, 58, 123);
        edges.rowed("3.8398 is not above 3.84", below, 0, below.apart(3), 15129, 3940);
        ClothWithMan above = two(38, 55, 131);
        edges.rowed("3.840009 is", above, 1, above.apart(3), 17161, 4469);
        edges.same("one less is not", 0, two(38, 55, 130).apart(3));
        edges.same("one more is", 1, two(24, 58, 124).apart(3));
        edges.same("either way", 1, two(38, 55, -99).apart(3) + two(38, 55, 131).apart(3));
        ClothWithMan most = two(1, 1, 1999);
        most.count(0, -99);
        edges.rowed("as far as may be told", most, 1, most.apart(3), 2098L * 1049, 1);
        most.house(0, 50, 1);
        most.house(1, -50, 1);
        edges.rowed("as far as can be", most, 1, most.apart(3), 2198L * 1099, 1);
    }

    private void apartThree() {
        edges.promise(23);
        edges.same("5.98992 is not above 5.99", 0, strip(23, 0, 9, 73).apart(7));
        edges.same("one more is", 1, strip(23, 0, 9, 74).apart(7));
        edges.same("5.990009 is", 1, strip(56, 0, 73, 192).apart(7));
        edges.same("one less is not", 0, strip(56, 0, 73, 191).apart(7));
        edges.same("what is much for two is little for three", 0, strip(10, 0, 0, 29).apart(7));
        edges.same("of two it is much", 1, strip(10, 0, 0, 29).apart(5));
    }

    private void apartFour() {
        edges.promise(23);
        ClothWithMan just = strip(10, 0, 2, 9, 35);
        edges.rowed("7.81 is not above 7.81", just, 0, just.apart(15), 781, 100);
        edges.same("one more is", 1, strip(10, 0, 2, 9, 36).apart(15));
        ClothWithMan above = strip(13, 0, 2, 26, 44);
        edges.rowed("7.8107 is", above, 1, above.apart(15), 1320, 169);
        edges.same("one less is not", 0, strip(13, 0, 2, 26, 43).apart(15));
        edges.same("what is much for three is little for four", 0, strip(10, 0, 0, 0, 30).apart(15));
        edges.same("of three it is much", 1, strip(10, 0, 0, 0, 30).apart(11));
        ClothWithMan most = strip(60, -99, 1999, -99, 1999);
        edges.rowed("as far as may be told", most, 1, most.apart(15), 1100401, 900);
    }

    private void apartNothing() {
        edges.promise(23);
        ClothWithMan cloth = strip(60, 7, 7, 7, 7);
        edges.rowed("two alike", cloth, 0, cloth.apart(3), 0, 1);
        edges.rowed("four alike", cloth, 0, cloth.apart(15), 0, 1);
        cloth.count(3, 8);
        edges.rowed("one apart", cloth, 0, cloth.apart(9), 1, 7200);
    }

    private void apartRefused() {
        edges.promise(23);
        refusedBits(c -> bits -> c.apart(bits));
        edges.changesNothing("one", -1, Edges::full, c -> c.apart(1));
        edges.changesNothing("five", -1, Edges::full, c -> c.apart(31));
        edges.changesNothing("five, the last", -1, Edges::full, c -> c.apart(31 << 7));
        edges.changesNothing("twelve", -1, Edges::full, c -> c.apart(4095));
        edges.yes("two, the last", Edges.full().apart(3 << 10) >= 0);
        edges.yes("four, the last", Edges.full().apart(15 << 8) >= 0);
    }

    private interface ByBits {
        long of(int bits);
    }

    private interface Asked {
        ByBits of(ClothWithMan cloth);
    }

    /** What no call takes: PIECES that are not there, or not COUNTED. */
    private void refusedBits(Asked asked) {
        int[] none = {0, -1, MIN, MIN | 7, 1 << 12, 7 << 12, 1 << 12 | 3, 1 << 30 | 7, MAX};
        for (int bits : none) {
            edges.changesNothing("PIECES " + bits, -1, c -> asked.of(c).of(bits));
        }
        edges.changesNothing("none told", -1, ClothWithMan::new, c -> asked.of(c).of(7));
        edges.changesNothing("one not COUNTED", -1, Edges::rich, c -> asked.of(c).of(64 + 3));
        edges.changesNothing("one not COUNTED", -1, Edges::rich, c -> asked.of(c).of(64 + 1));
        edges.changesNothing("one behind the last", -1, Edges::rich, c -> asked.of(c).of(128 + 3));
    }

    // ---- promise 24

    private void slopeUpAndDownByTheLeast() {
        edges.promise(24);
        ClothWithMan cloth = strip(10, 0, 1);
        edges.rowed("up by 1", cloth, 1, cloth.slope(3), 1, 1);
        cloth.count(1, -1);
        edges.rowed("down by 1", cloth, 2, cloth.slope(3), -1, 1);
        cloth.count(1, 0);
        edges.rowed("neither", cloth, 0, cloth.slope(3), 0, 1);
        cloth.piece(23, 7, 0, 0);
        cloth.count(2, 1);
        edges.rowed("up by 1 along the strip", cloth, 1, cloth.slope(5), 1, 23);
        cloth.count(2, -1);
        edges.rowed("down by 1 along the strip", cloth, 2, cloth.slope(5), -1, 23);
        cloth.count(0, 1999);
        cloth.count(1, -99);
        edges.rowed("as steep as may be", cloth, 2, cloth.slope(3), -2098, 1);
        ClothWithMan three = strip(10, 5, 0, 5);
        edges.rowed("neither of three", three, 0, three.slope(7), 0, 1);
    }

    private void slopeOfTwoAndOfSix() {
        edges.promise(24);
        ClothWithMan cloth = strip(10, 0, 10, 20, 30, 40, 50, 60);
        for (int n = 2; n <= 6; n++) {
            edges.rowed("of " + n, cloth, 1, cloth.slope((1 << n) - 1), 10, 1);
            edges.rowed("of the last " + n, cloth, 1, cloth.slope(127 & 127 << 7 - n), 10, 1);
        }
        edges.same("of one", -1, cloth.slope(1));
        edges.same("of seven", -1, cloth.slope(127));
    }

    private static ClothWithMan standing() {
        ClothWithMan cloth = new ClothWithMan();
        for (int i = 0; i < 6; i++) {
            cloth.piece(9, i, 0, i);
            cloth.count(i, 100 * i);
        }
        cloth.apart(3);
        return cloth;
    }

    private void slopeAllAlike() {
        edges.promise(24);
        edges.changesNothing("two at one x", -2, EdgeHouseTest::standing, c -> c.slope(3));
        edges.changesNothing("six at one x", -2, EdgeHouseTest::standing, c -> c.slope(63));
        ClothWithMan cloth = standing();
        cloth.piece(10, 0, 0, 0);
        cloth.count(6, 7);
        edges.same("one elsewhere", 2, cloth.slope(64 + 32));
        edges.promise(25);
        edges.changesNothing("two at one x", -2, EdgeHouseTest::standing, c -> c.lot(3));
        edges.changesNothing("six at one x", -2, EdgeHouseTest::standing, c -> c.lot(63));
        edges.same("one elsewhere", 0, cloth.lot(64 + 32));
        edges.same("NONE ahead of -2", -1, standing().lot(64 + 3));
        edges.same("NONE ahead of -2", -1, standing().lot(1));
    }

    private void slopeRefused() {
        edges.promise(24);
        refusedBits(c -> bits -> c.slope(bits));
        edges.changesNothing("one", -1, Edges::full, c -> c.slope(2048));
        edges.changesNothing("seven", -1, Edges::full, c -> c.slope(127));
        edges.changesNothing("twelve", -1, Edges::full, c -> c.slope(4095));
        edges.yes("six, the last", Edges.full().slope(63 << 6) >= 0);
        edges.same("NONE ahead of -2", -1, standing().slope(64 + 3));
        edges.same("NONE ahead of -2", -1, standing().slope(1));
    }

    // ---- promise 25

    private void lotOfTwoAndOfSix() {
        edges.promise(25);
        ClothWithMan cloth = strip(10, 0, 10, 20, 30, 40, 50, 60);
        long[] ways = {1, 3, 12, 60, 360};
        for (int n = 2; n <= 6; n++) {
            edges.rowed("of " + n, cloth, 0, cloth.lot((1 << n) - 1), 1, ways[n - 2]);
            edges.rowed("of the last " + n, cloth, 0, cloth.lot(127 & 127 << 7 - n), 1, ways[n - 2]);
        }
        edges.same("of one", -1, cloth.lot(1));
        edges.same("of seven", -1, cloth.lot(127));
    }

    private void lotAtLeast() {
        edges.promise(25);
        ClothWithMan flat = strip(10, 5, 5, 5);
        edges.rowed("no slope: each way is as steep", flat, 0, flat.lot(7), 1, 1);
        ClothWithMan even = strip(10, 5, 0, 5);
        edges.rowed("a slope of 0", even, 0, even.lot(7), 1, 1);
        // Slopes of 0 1 3 at x 0 1 2: 3, 2, 1 and these below 0.
        ClothWithMan down = strip(10, 3, 1, 0);
        edges.rowed("the steepest, down", down, 0, down.lot(7), 1, 3);
        ClothWithMan middle = strip(10, 1, 0, 3);
        edges.rowed("the next", middle, 0, middle.lot(7), 2, 3);
        ClothWithMan least = strip(10, 1, 3, 0);
        edges.rowed("the least", least, 0, least.lot(7), 1, 1);
    }

    private void lotRefused() {
        edges.promise(25);
        refusedBits(c -> bits -> c.lot(bits));
        edges.changesNothing("one", -1, Edges::full, c -> c.lot(2048));
        edges.changesNothing("seven", -1, Edges::full, c -> c.lot(127));
        edges.yes("six, the last", Edges.full().lot(63 << 6) == 0);
    }

    // ---- promise 26

    private void oddOfThreeAndOfFour() {
        edges.promise(26);
        ClothWithMan cloth = strip(10, 900, 0, 3, 1);
        edges.rowed("the first of four", cloth, 0, cloth.odd(15), 7, 150);
        cloth = strip(10, 0, 3, 1, 900);
        edges.rowed("the last of four", cloth, 3, cloth.odd(15), 7, 150);
        edges.rowed("the last of three", cloth, 3, cloth.odd(14), 1, 50);
        cloth = strip(10, 0, 0, 0, 0, 0, 0, 0, 0, 50, 3, 60, 5);
        edges.rowed("of the last three", cloth, 10, cloth.odd(7 << 9), 1, 50);
        edges.rowed("of the last four, 3 5 50 60", cloth, 10, cloth.odd(15 << 8), 2119, 150);
    }

    private void oddOfEqualOnes() {
        edges.promise(26);
        ClothWithMan cloth = strip(10, 7, 7, 7, 7, 7);
        edges.rowed("three alike", cloth, 0, cloth.odd(7), 0, 1);
        edges.rowed("four alike", cloth, 1, cloth.odd(30), 0, 1);
        cloth = strip(10, 0, 5, 10);
        edges.rowed("the first and the last are as odd", cloth, 0, cloth.odd(7), 1, 8);
        cloth = strip(1, -99, 1999, 1999, -99);
        edges.rowed("all as odd, as far as may be", cloth, 0, cloth.odd(15), 2L * 2098 * 2098, 3);
    }

    private void oddRefused() {
        edges.promise(26);
        refusedBits(c -> bits -> c.odd(bits));
        edges.changesNothing("two", -1, Edges::full, c -> c.odd(3));
        edges.changesNothing("two, the last", -1, Edges::full, c -> c.odd(3 << 10));
        edges.changesNothing("five", -1, Edges::full, c -> c.odd(31));
        edges.changesNothing("one", -1, Edges::full, c -> c.odd(1));
        edges.yes("three, the last", Edges.full().odd(7 << 9) >= 9);
        edges.yes("four, the last", Edges.full().odd(15 << 8) >= 8);
    }

    // ---- promise 27

    private static ClothWithMan falling() {
        ClothWithMan cloth = new ClothWithMan();
        Check.curve(cloth, "0:300;199:100");
        return cloth;
    }

    private void youngerBothEnds() {
        edges.promise(27);
        ClothWithMan cloth = falling();
        edges.same("as it is", 0, cloth.younger(0, 199, 300));
        edges.same("far above", 0, cloth.younger(0, 199, MAX));
        edges.same("one less", 1, cloth.younger(0, 199, 299));
        edges.same("what one hundredth does", 1, cloth.younger(0, 199, 298));
        edges.same("one less", 2, cloth.younger(0, 199, 297));
        edges.same("ninety-nine", 99, cloth.younger(0, 199, 102));
        edges.same("one less", 100, cloth.younger(0, 199, 101));
        edges.same("all of it", 100, cloth.younger(0, 199, 100));
        edges.same("not by 100", -2, cloth.younger(0, 199, 99));
        edges.same("older stuff does no harm", 0, cloth.younger(199, 0, 100));
        edges.same("older stuff does not help", -2, cloth.younger(199, 0, 99));
        edges.same("its own YEAR", 0, cloth.younger(199, 199, 100));
        edges.same("its own YEAR does not help", -2, cloth.younger(0, 0, 299));
        edges.changesNothing("not by 100", -2, Edges::rich, c -> c.younger(0, 199, -1));
        edges.changesNothing("far below", -2, c -> c.younger(0, 199, MIN));
    }

    private void youngerRefused() {
        edges.promise(27);
        int[] none = {-1, 200, MIN, MAX};
        for (int year : none) {
            edges.changesNothing("YEAR " + year, -1, c -> c.younger(year, 0, 100));
            edges.changesNothing("STUFF " + year, -1, c -> c.younger(0, year, 100));
            edges.changesNothing("NONE ahead of -2, " + year, -1, c -> c.younger(year, 0, MIN));
            edges.changesNothing("NONE ahead of -2, " + year, -1, c -> c.younger(0, year, MIN));
        }
    }

    // ---- promise 28

    private void mustBothEnds() {
        edges.promise(28);
        ClothWithMan cloth = falling();
        edges.rowed("no STUFF", cloth, 0, cloth.must(199, 0, 300), 0);
        edges.rowed("no STUFF, the last YEAR", cloth, 199, cloth.must(0, 0, 100), 0);
        edges.rowed("all STUFF", cloth, 0, cloth.must(199, 100, 300), 200);
        edges.rowed("all STUFF of the first YEAR", cloth, 0, cloth.must(0, 100, 300), 0);
        edges.rowed("one hundredth is left", cloth, 0, cloth.must(199, 99, 102), 0);
        edges.rowed("above all", cloth, 0, cloth.must(199, 0, 301), 1);
        edges.rowed("below all", cloth, 199, cloth.must(199, 0, 99), 1);
        edges.rowed("far above", cloth, 0, cloth.must(199, 0, MAX), MAX - 300L);
        edges.rowed("far below", cloth, 199, cloth.must(199, 0, MIN), 100L - MIN);
    }

    private void mustOfEqualOnes() {
        edges.promise(28);
        ClothWithMan cloth = new ClothWithMan();
        edges.rowed("all are alike", cloth, 0, cloth.must(0, 0, 5), 5);
        Check.curve(cloth, "0:9;1:5;2:7;3:9;198:9;199:5");
        edges.rowed("the first of two", cloth, 1, cloth.must(0, 0, 5), 0);
        edges.rowed("5 and 7 are as near to 6", cloth, 1, cloth.must(0, 0, 6), 1);
        edges.rowed("9 and 7 are as near to 8", cloth, 0, cloth.must(0, 0, 8), 1);
        edges.rowed("below", cloth, 1, cloth.must(0, 0, 4), 1);
    }

    private void mustRefused() {
        edges.promise(28);
        int[] years = {-1, 200, MIN, MAX};
        for (int year : years) {
            edges.changesNothing("STUFF " + year, -1, c -> c.must(year, 50, 100));
        }
        int[] shares = {-1, 101, MIN, MAX};
        for (int share : shares) {
            edges.changesNothing("hundredths " + share, -1, c -> c.must(50, share, 100));
        }
    }
}
