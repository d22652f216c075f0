import java.util.ArrayList;
import java.util.List;
import java.util.NoSuchElementException;

/**
 * Boundary cases, told by promise. A refused call is made on one of two clothes that were made alike: it must
 * answer as due, and all calls that look must answer on both alike.
 */
final class Edges {
    interface Maker {
        ClothWithMan make();
    }

    interface Call {
        long on(ClothWithMan cloth);
    }

    static final int MIN = Integer.MIN_VALUE;
    static final int MAX = Integer.MAX_VALUE;
    /** Stands for a NoSuchElementException. */
    static final long THROWN = Long.MIN_VALUE + 1;

    private final Check check;
    private final int first;
    private final int[] cases;
    private int promise;

    Edges(String name, int first, int last) {
        check = new Check(name);
        this.first = first;
        cases = new int[last - first + 1];
    }

    void promise(int number) {
        promise = number;
    }

    void same(String what, long due, long got) {
        check.same(named(what), due, got);
    }

    void yes(String what, boolean got) {
        check.yes(named(what), got);
    }

    void no(String what, boolean got) {
        check.no(named(what), got);
    }

    void missing(String what, Check.Call call) {
        check.missing(named(what), call);
    }

    void rowed(String what, ClothWithMan cloth, long due, long got, long... row) {
        check.rowed(named(what), cloth, due, got, row);
    }

    /** The call answers as due and leaves the bare, the rich and the full cloth as they were. */
    void changesNothing(String what, long due, Call call) {
        changesNothing(what + ", bare", due, ClothWithMan::new, call);
        changesNothing(what + ", rich", due, Edges::rich, call);
        changesNothing(what + ", full", due, Edges::full, call);
    }

    void changesNothing(String what, long due, Maker maker, Call call) {
        changesNothing(what, due, maker, call, cloth -> 0);
    }

    /** The call changes no more than the other call does on the other cloth. */
    void changesNothing(String what, long due, Maker maker, Call call, Call other) {
        ClothWithMan asked = maker.make();
        ClothWithMan unasked = maker.make();
        same(what + ": answer", due, answer(asked, call));
        other.on(unasked);
        same(what + ": nothing changes", -1, firstThatDiffers(seen(unasked), seen(asked)));
    }

    void close() {
        for (int i = 0; i < cases.length; i++) {
            check.yes("promise " + (first + i) + " has boundary cases", cases[i] > 0);
        }
        check.close();
    }

    private String named(String what) {
        cases[promise - first]++;
        return "promise " + promise + ": " + what;
    }

    static long bit(boolean answer) {
        return answer ? 1 : 0;
    }

    static long answer(ClothWithMan cloth, Call call) {
        try {
            return call.on(cloth);
        } catch (NoSuchElementException e) {
            return THROWN;
        }
    }

    private static long firstThatDiffers(List<Long> due, List<Long> got) {
        for (int i = 0; i < due.size() && i < got.size(); i++) {
            if (!due.get(i).equals(got.get(i))) {
                return i;
            }
        }
        return due.size() == got.size() ? -1 : Math.min(due.size(), got.size());
    }

    // ---- clothes

    /** Something of each kind is told, and room is left for more of each. */
    static ClothWithMan rich() {
        ClothWithMan cloth = new ClothWithMan();
        Check.curve(cloth, "10:300;60:250;100:400;150:90;190:120");
        cloth.mend(2, 1, 3, 2, 150);
        cloth.mend(3, 1, 10, 7, 20);
        cloth.stuff(0, 0, 12, 8, 190, 40);
        cloth.stuff(3, 0, 20, 2, 0, 33);
        cloth.way(1, 30);
        cloth.way(3, 100);
        for (int house = 0; house < 6; house++) {
            cloth.house(house, 10 * house - 25, 10 + 7 * house);
            cloth.piece(4 * house, house, house % 4, house);
        }
        cloth.piece(23, 7, 0, 5);
        for (int piece = 0; piece < 5; piece++) {
            cloth.count(piece, cloth.truth(piece) + piece);
        }
        Check.story(cloth, "");
        Check.story(cloth, "w100;h1,-9");
        Check.story(cloth, "s150,20;m60");
        cloth.paper(90, true, 8);
        cloth.paper(120, false, 6);
        tellHidden(cloth);
        cloth.keep(0);
        cloth.woven(130);
        cloth.count(5, 300);
        cloth.faith(1, 3);
        cloth.seed(77);
        cloth.keep(2);
        cloth.woven(131);
        cloth.count(0, 290);
        cloth.faith(2, 4);
        cloth.seed(-5);
        cloth.apart(3);
        Check.write(cloth, "5:6;70:8");
        return cloth;
    }

    private static void tellHidden(ClothWithMan cloth) {
        cloth.like(1);
        cloth.like(1);
        cloth.like(3);
        cloth.how(0, 1, 2);
        cloth.how(3, 4, 0);
        cloth.how(7, 8, 16);
        cloth.wanted(0, 1, 1, 2);
        cloth.wanted(5, 0, 0, 0);
    }

    /** As many of each kind are told as there may be. */
    static ClothWithMan full() {
        ClothWithMan cloth = new ClothWithMan();
        Check.curve(cloth, "0:0;199:199");
        for (int i = 0; i < 6; i++) {
            cloth.mend(i, 0, 2, 2, 60 + i);
            cloth.stuff(2 * i, 1, 3, 7, 10 * i, 10 + i);
            cloth.house(i, 3 * i, 60 - i);
        }
        for (int i = 0; i < 12; i++) {
            cloth.piece(2 * i, i % 8, i % 4, i % 6);
            cloth.count(i, 90 + i);
        }
        String[] stories = {"w100", "", "s50,9", "m30", "d-2", "h3,40"};
        for (String story : stories) {
            Check.story(cloth, story);
        }
        for (int i = 0; i < 4; i++) {
            cloth.paper(95 + i, i % 2 == 0, 6 + i);
        }
        for (int i = 0; i < 9; i++) {
            cloth.like(i % 5);
        }
        for (int i = 0; i < 8; i++) {
            cloth.how(i, 1 << i, 128 >> i & ~(1 << i));
            cloth.wanted(i, i % 6, i, 1 << i);
        }
        for (int i = 0; i < 3; i++) {
            cloth.woven(101 + i);
            cloth.seed(i);
            cloth.keep(i);
        }
        cloth.slope(63);
        Check.write(cloth, "0:1;1:2;2:3;3:4;4:5;5:6;6:7;7:8;8:9;9:0;10:0;11:0;12:0;199:9;" + "x".repeat(19));
        return cloth;
    }

    // ---- what can be seen of a cloth; it is spent then

    static List<Long> seen(ClothWithMan cloth) {
        List<Long> seen = new ArrayList<>();
        for (int what = 0; what <= 10; what++) {
            seen.add((long) cloth.told(what));
        }
        addRow(seen, cloth);
        for (int year = 0; year < 200; year += 11) {
            seen.add((long) cloth.value(year));
        }
        addThreads(seen, cloth);
        addPieces(seen, cloth);
        addStories(seen, cloth);
        addHidden(seen, cloth);
        addSpans(seen, cloth);
        addKept(seen, cloth);
        for (int way = 0; way < 4; way++) {
            seen.add((long) cloth.way(way, 0));
        }
        cloth.end(54);
        seen.add((long) cloth.curve());
        for (int year = 0; year < 200; year += 33) {
            seen.add((long) cloth.value(year));
        }
        return seen;
    }

    private static void addRow(List<Long> seen, ClothWithMan cloth) {
        int numbers = cloth.told(8);
        for (int i = 0; i < numbers; i++) {
            seen.add(cloth.row(i));
        }
    }

    private static void addThreads(List<Long> seen, ClothWithMan cloth) {
        int[][] places = {{0, 0}, {3, 1}, {4, 1}, {4, 2}, {12, 1}, {23, 7}};
        for (int[] place : places) {
            for (int way = 0; way < 4; way++) {
                seen.add((long) cloth.thread(place[0], place[1], way));
            }
        }
    }

    private static void addPieces(List<Long> seen, ClothWithMan cloth) {
        int pieces = cloth.told(3);
        for (int piece = 0; piece < pieces; piece++) {
            int asked = piece;
            seen.add((long) cloth.truth(piece));
            seen.add(answer(cloth, c -> c.counted(asked)));
        }
    }

    private static void addStories(List<Long> seen, ClothWithMan cloth) {
        int stories = cloth.told(5);
        int pieces = cloth.told(3);
        for (int story = 0; story < stories; story++) {
            seen.add((long) cloth.needs(story));
            addRow(seen, cloth);
            for (int piece = 0; piece < pieces; piece += 5) {
                seen.add((long) cloth.would(story, piece, 77));
            }
        }
        for (int bits = 1; bits < 4; bits++) {
            seen.add((long) cloth.odds(bits));
            addRow(seen, cloth);
        }
    }

    private static void addHidden(List<Long> seen, ClothWithMan cloth) {
        for (int weave = 0; weave < 6; weave++) {
            seen.add((long) cloth.knew(weave, 1));
            addRow(seen, cloth);
        }
        int[][] marks = {{0, 0}, {1, 0}, {0, 1}, {4, 10}, {255, 0}, {0, 255}};
        for (int[] m : marks) {
            seen.add((long) cloth.open(m[0], m[1]));
            addRow(seen, cloth);
        }
        for (int person = 0; person < 8; person++) {
            seen.add((long) cloth.omits(person));
            addRow(seen, cloth);
        }
    }

    /** By a known R a draw tells the SPAN of its PIECE's HOUSE. */
    private static void addSpans(List<Long> seen, ClothWithMan cloth) {
        seen.add((long) cloth.seed(1));
        int from = cloth.told(3);
        if (from > 6) {
            // The rich and the full cloth have their first PIECES by HOUSES 0 .. 5.
            from = 0;
        } else {
            for (int house = 0; house < 6; house++) {
                cloth.piece(0, 0, 0, house);
            }
        }
        for (int piece = from; piece < from + 6; piece++) {
            seen.add((long) cloth.truth(piece));
            seen.add((long) cloth.draw(piece));
        }
    }

    private static void addKept(List<Long> seen, ClothWithMan cloth) {
        addFaiths(seen, cloth);
        for (int i = 0; i < 3; i++) {
            seen.add(bit(cloth.again(i)));
            seen.add((long) cloth.told(4));
            seen.add((long) cloth.told(10));
            seen.add(answer(cloth, c -> c.counted(0)));
            seen.add(answer(cloth, c -> c.counted(5)));
            seen.add((long) cloth.seed(3));
            addFaiths(seen, cloth);
        }
    }

    private static void addFaiths(List<Long> seen, ClothWithMan cloth) {
        int stories = cloth.told(5);
        for (int story = 0; story < stories; story++) {
            seen.add((long) cloth.faith(story, 8));
        }
    }
}
