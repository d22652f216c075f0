import java.util.Arrays;
import java.util.List;
import java.util.NoSuchElementException;
import java.util.Random;

/**
 * Long runs of calls by lot (the same each time), each answer and the whole ROW held against PlainCloth. An object
 * is asked 512 times at most, all told: what it answers later is free.
 */
public final class PlainTest {
    private static final int RUNS = 2000;
    private static final int CALLS = 512;
    /** More than one step asks of the object. */
    private static final int CALLS_OF_A_STEP = 60;
    private static final int STEPS_BETWEEN_LOOKS = 10;
    private static final int[] FAR = {
        Integer.MIN_VALUE, Integer.MIN_VALUE + 1, -1000, -100, -2, -1, 0, 1, 7, 8, 12, 24, 61, 200, 256, 1 << 12,
        2000, 1 << 20, 1 << 30, Integer.MAX_VALUE - 1, Integer.MAX_VALUE,
    };
    private static final String SIGNS = "0123456789:;,-wsmdhx \u00ff";

    private final Check check = new Check("PlainTest");
    private final int[] answered = new int[51];
    private final int[] refused = new int[51];
    private Random lot;
    private ClothWithMan cloth;
    private PlainCloth plain;
    private boolean isWild;
    private int calls;
    private List<Long> rowSeen;

    public static void main(String[] args) {
        PlainTest test = new PlainTest();
        for (int run = 0; run < RUNS; run++) {
            test.run(run);
        }
        for (int call = 0; call < 51; call++) {
            test.check.yes("call " + call + " has answered", test.answered[call] > 100);
            boolean isNeverRefused = call == 27 || call == 47;
            test.check.yes("call " + call + " has refused", isNeverRefused || test.refused[call] > 20);
        }
        test.check.close();
    }

    private void run(int run) {
        lot = new Random(run);
        cloth = new ClothWithMan();
        plain = new PlainCloth();
        calls = 0;
        rowSeen = null;
        isWild = run % 4 == 0;
        if (!isWild) {
            set();
        }
        for (int number = 0; calls < CALLS - CALLS_OF_A_STEP; number++) {
            if (!step(run, number)) {
                return;
            }
        }
    }

    /** Runs that begin with a cloth much of which is told get farther. */
    private void set() {
        calls += 1 + 2 * 5 + 3 + 2 * 2;
        write(curveText());
        cloth.curve();
        plain.curve();
        for (int i = 0; i < 5; i++) {
            int[] p = {lot.nextInt(24), lot.nextInt(8), lot.nextInt(4), lot.nextInt(6)};
            cloth.piece(p[0], p[1], p[2], p[3]);
            plain.piece(p[0], p[1], p[2], p[3]);
            if (lot.nextInt(5) > 0) {
                cloth.draw(i);
                plain.draw(i);
            }
        }
        for (int i = 0; i < 3; i++) {
            write(storyText());
            cloth.story();
            plain.story();
        }
        for (int i = 0; i < 2; i++) {
            int[] p = {lot.nextInt(200), lot.nextInt(2), 1 + lot.nextInt(9), lot.nextInt(16), lot.nextInt(4096)};
            cloth.paper(p[0], p[1] == 1, p[2]);
            plain.paper(p[0], p[1] == 1, p[2]);
            cloth.wanted(4 * i, i, p[3], p[4]);
            plain.wanted(4 * i, i, p[3], p[4]);
        }
    }

    // ---- arguments by lot

    private int upTo(int most) {
        if (lot.nextInt(isWild ? 6 : 40) == 0) {
            return FAR[lot.nextInt(FAR.length)];
        }
        return lot.nextInt(most + 1);
    }

    private int from(int least, int most) {
        return least + upTo(most - least);
    }

    private int pieceBits(int most) {
        if (lot.nextInt(10) == 0) {
            return upTo(4095);
        }
        calls++;
        int counted = cloth.told(4);
        int bits = 0;
        int n = 1 + lot.nextInt(most);
        for (int i = 0; i < 40 && Integer.bitCount(bits) < n; i++) {
            bits |= 1 << lot.nextInt(12) & counted;
        }
        return bits;
    }

    private int near() {
        return lot.nextInt(3) == 0 ? from(-99, 1999) : plainValue() + lot.nextInt(41) - 20;
    }

    private int plainValue() {
        return (int) plain.value(lot.nextInt(200));
    }

    private String curveText() {
        StringBuilder out = new StringBuilder();
        int year = lot.nextInt(20);
        while (year < 200 && (out.length() < 50 || lot.nextInt(3) == 0)) {
            out.append(out.length() > 0 ? ";" : "").append(year).append(':').append(lot.nextInt(400));
            year += 1 + lot.nextInt(lot.nextBoolean() ? 60 : 5);
        }
        return out.length() > 80 ? out.substring(0, 80) : out.toString();
    }

    private String storyText() {
        StringBuilder out = new StringBuilder();
        String sign = "";
        for (int i = 0; i < 5; i++) {
            if (lot.nextInt(3) == 0) {
                out.append(out.length() > 0 ? ";" : "");
                sign = lot.nextInt(2) == 0 ? "-" : "";
                switch (i) {
                    case 0: out.append('w').append(lot.nextInt(200)); break;
                    case 1: out.append('s').append(lot.nextInt(200)).append(',').append(lot.nextInt(91)); break;
                    case 2: out.append('m').append(lot.nextInt(200)); break;
                    case 3: out.append('d').append(sign).append(lot.nextInt(20)); break;
                    default: out.append('h').append(lot.nextInt(6)).append(',').append(sign).append(lot.nextInt(100));
                }
            }
        }
        return out.toString();
    }

    /** Some texts with one sign put in, taken out, or another. */
    private String bent(String text) {
        if (lot.nextInt(3) > 0) {
            return text;
        }
        StringBuilder out = new StringBuilder(text);
        int p = lot.nextInt(text.length() + 1);
        char sign = SIGNS.charAt(lot.nextInt(SIGNS.length()));
        int how = lot.nextInt(3);
        if (how == 0 || p == text.length()) {
            out.insert(p, sign);
        } else if (how == 1) {
            out.deleteCharAt(p);
        } else {
            out.setCharAt(p, sign);
        }
        return out.length() > 80 ? out.substring(0, 80) : out.toString();
    }

    private void write(String text) {
        calls += 2 + (text.length() + 3) / 4;
        Check.write(cloth, text);
        plain.text = text;
    }

    // ---- one call

    private boolean step(int run, int number) {
        int call = lot.nextInt(51);
        String what = "run " + run + ", call " + number + " (" + call + ")";
        if (call == 0 && lot.nextInt(4) == 0) {
            write("1".repeat(70 + lot.nextInt(11)));
        }
        if (call == 1 && lot.nextInt(2) == 0 || call == 2 && lot.nextInt(8) > 0) {
            write(bent(curveText()));
        }
        if (call == 28 && lot.nextInt(8) > 0) {
            write(bent(storyText()));
        }
        if (lot.nextInt(3) > 0 && (call == 4 || call == 5 || call == 40) || call == 48 && lot.nextInt(2) > 0) {
            return true;
        }
        int[] a = arguments(call);
        calls++;
        long due = answer(plainCall(call, a));
        long got = answer(clothCall(call, a));
        boolean isNo = due == 0 && isYesOrNo(call);
        if (due >= 0 && !isNo) {
            answered[call]++;
        } else {
            refused[call]++;
        }
        boolean isRight = due == got && sameRow() && (number % STEPS_BETWEEN_LOOKS > 0 || sameState());
        check.yes(what + " " + Arrays.toString(a) + " due " + due + " got " + got + " row " + plain.row,
                isRight);
        return isRight;
    }

    private static boolean isYesOrNo(int call) {
        return call == 1 || call == 8 || call == 13 || call == 42 || call == 45 || call == 48 || call == 49;
    }

    private static final long THROWN = Long.MIN_VALUE + 1;

    private static long answer(Check.Call call) {
        try {
            return call.answer();
        } catch (NoSuchElementException e) {
            return THROWN;
        }
    }

    /** PlainCloth makes a new list for each ROW: while it is the same, the ROW was not told anew. */
    private boolean sameRow() {
        calls++;
        if (cloth.told(8) != plain.row.size()) {
            return false;
        }
        if (plain.row == rowSeen && lot.nextInt(8) > 0) {
            return true;
        }
        rowSeen = plain.row;
        calls += plain.row.size();
        for (int i = 0; i < plain.row.size(); i++) {
            if (cloth.row(i) != plain.row.get(i)) {
                return false;
            }
        }
        return true;
    }

    private boolean sameState() {
        calls += 11;
        for (int what = 0; what <= 10; what++) {
            if (cloth.told(what) != plain.told(what)) {
                return false;
            }
        }
        return true;
    }

    private int[] arguments(int call) {
        switch (call) {
            case 0: return new int[] {lot.nextInt()};
            case 1: return new int[] {upTo(80)};
            case 4: return new int[] {from(-1, 200)};
            case 5: return new int[] {upTo(24), upTo(8), upTo(12), upTo(5), upTo(199)};
            case 6: return new int[] {upTo(24), upTo(8), upTo(12), upTo(5), upTo(199), upTo(90)};
            case 7: return new int[] {upTo(4), upTo(101)};
            case 8: return new int[] {upTo(6), from(-51, 51), upTo(61)};
            case 9: return new int[] {upTo(4), from(-1, 7), lot.nextInt(3) == 0 ? lot.nextInt() : from(-100, 300),
                lot.nextInt(3) == 0 ? lot.nextInt() : from(-30, 30)};
            case 10: return new int[] {upTo(24), upTo(8), upTo(4)};
            case 11: return new int[] {upTo(24), upTo(8), upTo(4), upTo(6)};
            case 12: case 14: case 15: return new int[] {upTo(12)};
            case 13: return new int[] {upTo(12), near()};
            case 16: return new int[] {near(), near(), upTo(61)};
            case 17: return new int[] {near(), upTo(61)};
            case 18: return new int[] {pieceBits(7)};
            case 19: return new int[] {pieceBits(lot.nextBoolean() ? 2 : 7), upTo(101)};
            case 20: return new int[] {pieceBits(lot.nextBoolean() ? 2 : 7), upTo(199), upTo(199)};
            case 21: case 24: return new int[] {pieceBits(5)};
            case 22: case 23: return new int[] {pieceBits(lot.nextBoolean() ? 4 : 7)};
            case 25: return new int[] {upTo(199), upTo(199), near()};
            case 26: return new int[] {upTo(199), upTo(101), near()};
            case 29: return new int[] {upTo(6), upTo(10)};
            case 30: return new int[] {upTo(6), upTo(12), upTo(200)};
            case 31: return new int[] {upTo(200), lot.nextInt(2), upTo(10)};
            case 32: case 34: return new int[] {pieceBits(lot.nextBoolean() ? 2 : 5)};
            case 33: return new int[] {upTo(6), pieceBits(5)};
            case 35: return new int[] {upTo(6)};
            case 36: return new int[] {upTo(12), upTo(200)};
            case 37: case 38: case 39: case 3: return new int[] {upTo(200)};
            case 40: return new int[] {upTo(6)};
            case 41: return new int[] {upTo(6), upTo(9)};
            case 42: return marks(upTo(8));
            case 43: case 44: return new int[] {marks(0)[1], marks(0)[2]};
            case 45: return new int[] {upTo(8), upTo(5), upTo(15), upTo(4095)};
            case 46: return new int[] {upTo(8)};
            case 47: return new int[] {lot.nextInt()};
            case 48: case 49: return new int[] {upTo(3)};
            case 50: return new int[] {upTo(20)};
            default: return new int[0];
        }
    }

    private int[] marks(int how) {
        int some = upTo(255) & upTo(255);
        int others = upTo(255) & upTo(255);
        return new int[] {how, some, lot.nextInt(6) == 0 ? others : others & ~some};
    }

    private static int bit(boolean answer) {
        return answer ? 1 : 0;
    }

    private Check.Call clothCall(int call, int[] a) {
        switch (call) {
            case 0: return () -> cloth.sign(a[0]);
            case 1: return () -> bit(cloth.end(a[0]));
            case 2: return () -> cloth.curve();
            case 3: return () -> cloth.value(a[0]);
            case 4: return () -> cloth.woven(a[0]);
            case 5: return () -> cloth.mend(a[0], a[1], a[2], a[3], a[4]);
            case 6: return () -> cloth.stuff(a[0], a[1], a[2], a[3], a[4], a[5]);
            case 7: return () -> cloth.way(a[0], a[1]);
            case 8: return () -> bit(cloth.house(a[0], a[1], a[2]));
            case 9: return () -> cloth.sheet(a[0], a[1], a[2], a[3]);
            case 10: return () -> cloth.thread(a[0], a[1], a[2]);
            case 11: return () -> cloth.piece(a[0], a[1], a[2], a[3]);
            case 12: return () -> cloth.truth(a[0]);
            case 13: return () -> bit(cloth.count(a[0], a[1]));
            case 14: return () -> cloth.draw(a[0]);
            case 15: return () -> cloth.counted(a[0]);
            case 16: return () -> cloth.likeness(a[0], a[1], a[2]);
            case 17: return () -> cloth.years(a[0], a[1]);
            case 18: return () -> cloth.likely(a[0]);
            case 19: return () -> cloth.within(a[0], a[1]);
            case 20: return () -> cloth.between(a[0], a[1], a[2]);
            case 21: return () -> cloth.apart(a[0]);
            case 22: return () -> cloth.slope(a[0]);
            case 23: return () -> cloth.lot(a[0]);
            case 24: return () -> cloth.odd(a[0]);
            case 25: return () -> cloth.younger(a[0], a[1], a[2]);
            default: return laterClothCall(call, a);
        }
    }

    private Check.Call laterClothCall(int call, int[] a) {
        switch (call) {
            case 26: return () -> cloth.must(a[0], a[1], a[2]);
            case 27: return () -> cloth.told(8);
            case 28: return () -> cloth.story();
            case 29: return () -> cloth.faith(a[0], a[1]);
            case 30: return () -> cloth.would(a[0], a[1], a[2]);
            case 31: return () -> cloth.paper(a[0], a[1] == 1, a[2]);
            case 32: return () -> cloth.odds(a[0]);
            case 33: return () -> cloth.when(a[0], a[1]);
            case 34: return () -> cloth.first(a[0]);
            case 35: return () -> cloth.needs(a[0]);
            case 36: return () -> cloth.parts(a[0], a[1]);
            case 37: return () -> cloth.next(a[0]);
            case 38: return () -> cloth.fewest(a[0]);
            case 39: return () -> cloth.where(a[0]);
            case 40: return () -> cloth.like(a[0]);
            case 41: return () -> cloth.knew(a[0], a[1]);
            case 42: return () -> bit(cloth.how(a[0], a[1], a[2]));
            case 43: return () -> cloth.open(a[0], a[1]);
            case 44: return () -> cloth.look(a[0], a[1]);
            case 45: return () -> bit(cloth.wanted(a[0], a[1], a[2], a[3]));
            case 46: return () -> cloth.omits(a[0]);
            case 47: return () -> cloth.seed(a[0]);
            case 48: return () -> bit(cloth.keep(a[0]));
            case 49: return () -> bit(cloth.again(a[0]));
            default: return () -> cloth.row(a[0]);
        }
    }

    private Check.Call plainCall(int call, int[] a) {
        switch (call) {
            case 0: return () -> plain.sign(a[0]);
            case 1: return () -> plain.end(a[0]);
            case 2: return () -> plain.curve();
            case 3: return () -> plain.value(a[0]);
            case 4: return () -> plain.woven(a[0]);
            case 5: return () -> plain.mend(a[0], a[1], a[2], a[3], a[4]);
            case 6: return () -> plain.stuff(a[0], a[1], a[2], a[3], a[4], a[5]);
            case 7: return () -> plain.way(a[0], a[1]);
            case 8: return () -> plain.house(a[0], a[1], a[2]);
            case 9: return () -> plain.sheet(a[0], a[1], a[2], a[3]);
            case 10: return () -> plain.thread(a[0], a[1], a[2]);
            case 11: return () -> plain.piece(a[0], a[1], a[2], a[3]);
            case 12: return () -> plain.truth(a[0]);
            case 13: return () -> plain.count(a[0], a[1]);
            case 14: return () -> plain.draw(a[0]);
            case 15: return () -> plain.counted(a[0]);
            case 16: return () -> plain.likeness(a[0], a[1], a[2]);
            case 17: return () -> plain.years(a[0], a[1]);
            case 18: return () -> plain.likely(a[0]);
            case 19: return () -> plain.within(a[0], a[1]);
            case 20: return () -> plain.between(a[0], a[1], a[2]);
            case 21: return () -> plain.apart(a[0]);
            case 22: return () -> plain.slope(a[0]);
            case 23: return () -> plain.lot(a[0]);
            case 24: return () -> plain.odd(a[0]);
            case 25: return () -> plain.younger(a[0], a[1], a[2]);
            default: return laterPlainCall(call, a);
        }
    }

    private Check.Call laterPlainCall(int call, int[] a) {
        switch (call) {
            case 26: return () -> plain.must(a[0], a[1], a[2]);
            case 27: return () -> plain.told(8);
            case 28: return () -> plain.story();
            case 29: return () -> plain.faith(a[0], a[1]);
            case 30: return () -> plain.would(a[0], a[1], a[2]);
            case 31: return () -> plain.paper(a[0], a[1] == 1, a[2]);
            case 32: return () -> plain.odds(a[0]);
            case 33: return () -> plain.when(a[0], a[1]);
            case 34: return () -> plain.first(a[0]);
            case 35: return () -> plain.needs(a[0]);
            case 36: return () -> plain.parts(a[0], a[1]);
            case 37: return () -> plain.next(a[0]);
            case 38: return () -> plain.fewest(a[0]);
            case 39: return () -> plain.where(a[0]);
            case 40: return () -> plain.like(a[0]);
            case 41: return () -> plain.knew(a[0], a[1]);
            case 42: return () -> plain.how(a[0], a[1], a[2]);
            case 43: return () -> plain.open(a[0], a[1]);
            case 44: return () -> plain.look(a[0], a[1]);
            case 45: return () -> plain.wanted(a[0], a[1], a[2], a[3]);
            case 46: return () -> plain.omits(a[0]);
            case 47: return () -> plain.seed(a[0]);
            case 48: return () -> plain.keep(a[0]);
            case 49: return () -> plain.again(a[0]);
            default: return () -> plain.row(a[0]);
        }
    }
}
