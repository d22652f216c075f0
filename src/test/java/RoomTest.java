import com.sun.management.ThreadMXBean;
import java.lang.management.ManagementFactory;

/**
 * All calls of a run live in one room of some 600,000 objects and 7.3 million fields and elements: an object and
 * its calls, of whichever kind, take little of it.
 */
public final class RoomTest {
    /** With those that make a full cloth they are fewer than 512. */
    private static final int CALLS = 250;
    private static final long MOST_BYTES_OF_AN_OBJECT = 16_000;
    private static final long MOST_BYTES_OF_CALLS = 32_000;

    private final ThreadMXBean bean = (ThreadMXBean) ManagementFactory.getThreadMXBean();
    private final Check check = new Check("RoomTest");
    private ClothWithMan made;

    public static void main(String[] args) {
        RoomTest test = new RoomTest();
        test.anObject();
        test.callsOfTheCloth();
        test.callsByPieces();
        test.callsByStories();
        test.check.close();
    }

    private long bytes() {
        return bean.getThreadAllocatedBytes(Thread.currentThread().getId());
    }

    private void anObject() {
        made = new ClothWithMan();
        long ahead = bytes();
        made = new ClothWithMan();
        long taken = bytes() - ahead;
        check.yes("a new object takes " + taken + " bytes", taken > 0 && taken < MOST_BYTES_OF_AN_OBJECT);
    }

    /** Twice, as the first time the machine makes things of its own. */
    private void little(String what, Edges.Maker maker, Edges.Call call) {
        long taken = 0;
        for (int turn = 0; turn < 2; turn++) {
            ClothWithMan cloth = maker.make();
            long ahead = bytes();
            for (int i = 0; i < CALLS; i++) {
                call.on(cloth);
            }
            taken = bytes() - ahead;
        }
        check.yes(what + ": " + CALLS + " calls take " + taken + " bytes", taken < MOST_BYTES_OF_CALLS);
    }

    private void callsOfTheCloth() {
        little("sign", ClothWithMan::new, c -> c.sign(5));
        little("curve", ClothWithMan::new, c -> c.sign(0x303a3939) + c.curve());
        little("woven", Edges::full, c -> c.woven(5));
        little("mend", ClothWithMan::new, c -> c.mend(0, 0, 1, 1, 0));
        little("stuff", ClothWithMan::new, c -> c.stuff(0, 0, 1, 1, 0, 1));
        little("house", Edges::full, c -> Edges.bit(c.house(0, 1, 1)));
        little("sheet", Edges::full, c -> c.sheet(2, 6, 1, 1));
        little("thread", Edges::full, c -> c.thread(0, 0, 0));
        little("seed", Edges::full, c -> c.seed(1));
        little("keep", Edges::full, c -> Edges.bit(c.keep(1)));
        little("again", Edges::full, c -> Edges.bit(c.again(1)));
        little("told", Edges::full, c -> c.told(4));
        little("row", Edges::full, c -> c.row(0));
        little("like", ClothWithMan::new, c -> c.like(1));
        little("knew", Edges::full, c -> c.knew(1, 5));
        little("how", Edges::full, c -> Edges.bit(c.how(1, 2, 4)));
        little("open", Edges::full, c -> c.open(1, 2));
        little("look", Edges::full, c -> c.look(1, 2));
    }

    private void callsByPieces() {
        little("piece", ClothWithMan::new, c -> c.piece(0, 0, 0, 0));
        little("truth", Edges::full, c -> c.truth(11));
        little("count", Edges::full, c -> Edges.bit(c.count(1, 5)));
        little("draw", Edges::full, c -> c.draw(1));
        little("counted", Edges::full, c -> c.counted(1));
        little("likeness", Edges::full, c -> c.likeness(1, 2, 3));
        little("years", Edges::full, c -> c.years(100, 5));
        little("likely", Edges::full, c -> c.likely(63));
        little("within", Edges::full, c -> c.within(63, 100));
        little("between", Edges::full, c -> c.between(63, 0, 199));
        little("apart", Edges::full, c -> c.apart(15));
        little("slope", Edges::full, c -> c.slope(63));
        little("lot", Edges::full, c -> c.lot(63));
        little("odd", Edges::full, c -> c.odd(15));
        little("younger", Edges::full, c -> c.younger(100, 5, 6));
        little("must", Edges::full, c -> c.must(100, 5, 6));
    }

    private void callsByStories() {
        little("story", ClothWithMan::new, c -> c.story());
        little("wrong stories", ClothWithMan::new, c -> c.sign(0x77313b77) + c.story());
        little("faith", Edges::full, c -> c.faith(1, 2));
        little("would", Edges::full, c -> c.would(5, 11, 50));
        little("paper", ClothWithMan::new, c -> c.paper(1, true, 1));
        little("odds", Edges::full, c -> c.odds(15));
        little("when", Edges::full, c -> c.when(1, 15));
        little("first", Edges::full, c -> c.first(15));
        little("needs", Edges::full, c -> c.needs(1));
        little("parts", Edges::full, c -> c.parts(11, 50));
        little("next", Edges::full, c -> c.next(50));
        little("fewest", Edges::full, c -> c.fewest(50));
        little("where", Edges::full, c -> c.where(50));
        little("wanted", Edges::full, c -> Edges.bit(c.wanted(1, 2, 3, 4)));
        little("omits", Edges::full, c -> c.omits(1));
    }
}
