import java.util.ArrayList;
import java.util.NoSuchElementException;

/** A cloth with a man on it; ../shared/DOC.md says what each call answers. */
public final class ClothWithMan {
    public static final int NONE = -1;

    private static final int NO_ANSWER = -2;
    private static final int MISSING_SHEET = -3;
    private static final int STORIES_FULL = -100;

    private static final int YEARS = 200;
    private static final int LAST_YEAR = 199;
    private static final int WIDTH = 24;
    private static final int HEIGHT = 8;
    private static final int WAYS = 4;
    private static final int HOUSES = 6;
    private static final int FIRST_SPAN = 20;
    private static final int MOST_SPAN = 60;
    private static final int MOST_SLIP = 50;
    private static final int MOST_PATCHES = 6;
    private static final int MOST_SHARE = 90;
    private static final int MOST_PIECES = 12;
    private static final int LEAST_NUMBER = -99;
    private static final int MOST_NUMBER = 1999;
    private static final int MOST_WEIGHED = 6;
    private static final int MOST_STORIES = 6;
    private static final int MOST_STORY_PIECES = 4;
    private static final int MOST_FAITH = 9;
    private static final int MOST_PAPERS = 4;
    private static final int MOST_TRUST = 9;
    private static final int WEAVES = 6;
    private static final int MOST_LIKES = 9;
    private static final int HOWS = 8;
    private static final int MARKS = 8;
    private static final int ALL_MARKS = 255;
    private static final int PERSONS = 8;
    private static final int KEEPS = 3;
    private static final int TOLD_SPANS = 10;
    private static final int AGAINST_FIT = 5;
    private static final int AGAINST_LIKENESS = 32;

    private static final int MISSING_KIND = 3;

    private static final int[] LIKENESSES = {100, 88, 61, 32, 14, 4, 1};
    /** In hundredths, of 0, 1, 2 .. PIECES. */
    private static final int[] APART_BOUNDS = {0, 0, 384, 599, 781};

    private final Text text = new Text();
    private final Cloth cloth = new Cloth();
    private final int[] slips = new int[HOUSES];
    private final int[] spans = new int[HOUSES];
    private final ArrayList<Piece> pieceList = new ArrayList<Piece>();
    private final ArrayList<Story> storyList = new ArrayList<Story>();
    private final ArrayList<Paper> paperList = new ArrayList<Paper>();
    private final int[] likesByWeave = new int[WEAVES];
    private final How[] hows = new How[HOWS];
    private final Want[] wants = new Want[PERSONS];
    private final Kept[] kept = new Kept[KEEPS];
    private final Row numbers = new Row();
    private int random = 1;

    // Rows to reckon in, made once, as all calls live in one room.
    private final long[] yearWeights = new long[YEARS];
    private final boolean[] marked = new boolean[YEARS];
    private final long[] storyWeights = new long[MOST_STORIES];
    private final int[] bares = new int[MOST_STORIES];
    private final int[] partedBy = new int[MOST_PIECES];
    private final int[] places = new int[MOST_WEIGHED];
    private final int[] counts = new int[MOST_WEIGHED];

    public ClothWithMan() {
        for (int house = 0; house < HOUSES; house++) {
            spans[house] = FIRST_SPAN;
        }
    }

    // ---- the cloth

    public int sign(int v) {
        return text.append(v);
    }

    public boolean end(int n) {
        return text.cut(n);
    }

    public int curve() {
        int answer = cloth.curve.read(text);
        text.cut(0);
        return answer;
    }

    public int value(int year) {
        return isYear(year) ? cloth.curve.at(year) : NONE;
    }

    public int woven(int year) {
        if (!isYear(year)) {
            return NONE;
        }
        int was = cloth.woven;
        cloth.woven = year;
        return was;
    }

    public int mend(int x, int y, int wide, int high, int year) {
        if (!isPart(x, wide, WIDTH) || !isPart(y, high, HEIGHT) || !isYear(year)
                || cloth.mends.size() >= MOST_PATCHES) {
            return NONE;
        }
        cloth.mends.add(new Patch(x, y, wide, high, year, 0));
        return cloth.mends.size() - 1;
    }

    public int stuff(int x, int y, int wide, int high, int year, int share) {
        if (!isPart(x, wide, WIDTH) || !isPart(y, high, HEIGHT) || !isYear(year)
                || !isIn(share, 0, MOST_SHARE) || cloth.stuffs.size() >= MOST_PATCHES) {
            return NONE;
        }
        cloth.stuffs.add(new Patch(x, y, wide, high, year, share));
        return cloth.stuffs.size() - 1;
    }

    public int way(int way, int v) {
        if (!isIn(way, 0, WAYS - 1) || !isIn(v, 0, 100)) {
            return NONE;
        }
        int was = cloth.goes[way];
        cloth.goes[way] = v;
        return was;
    }

    public boolean house(int house, int slip, int span) {
        if (!isIn(house, 0, HOUSES - 1) || !isIn(slip, -MOST_SLIP, MOST_SLIP) || !isSpan(span)) {
            return false;
        }
        slips[house] = slip;
        spans[house] = span;
        return true;
    }

    public int sheet(int kind, int n, int f, int step) {
        if (!isIn(kind, 0, MISSING_KIND) || n > HOUSES) {
            return NONE;
        }
        if (kind != MISSING_KIND && n < 0) {
            return NO_ANSWER;
        }
        int entries = kind == MISSING_KIND ? 0 : n;
        int sum = 0;
        for (int house = 0; house < HOUSES; house++) {
            spans[house] = house < entries ? asSpan(kind, f + house * step) : FIRST_SPAN;
            sum += spans[house];
        }
        return kind == MISSING_KIND ? MISSING_SHEET : sum;
    }

    public int thread(int x, int y, int way) {
        return isSpot(x, y, way) ? cloth.threadAt(x, y, way) : NONE;
    }

    // ---- pieces

    public int piece(int x, int y, int way, int house) {
        if (!isSpot(x, y, way) || !isIn(house, 0, HOUSES - 1) || pieceList.size() >= MOST_PIECES) {
            return NONE;
        }
        pieceList.add(new Piece(x, y, way, house));
        return pieceList.size() - 1;
    }

    public int truth(int piece) throws NoSuchElementException {
        if (!isPiece(piece)) {
            throw new NoSuchElementException("no such piece");
        }
        return trueOf(pieceList.get(piece));
    }

    public boolean count(int piece, int number) {
        if (!isPiece(piece) || !isIn(number, LEAST_NUMBER, MOST_NUMBER)) {
            return false;
        }
        pieceList.get(piece).tell(number);
        return true;
    }

    public int draw(int piece) throws NoSuchElementException {
        if (!isPiece(piece)) {
            throw new NoSuchElementException("no such piece");
        }
        Piece drawn = pieceList.get(piece);
        int span = spans[drawn.house];
        drawn.tell(trueOf(drawn) + lotOf(2 * span + 1) - span);
        return drawn.number;
    }

    public int counted(int piece) throws NoSuchElementException {
        if (!isPiece(piece)) {
            throw new NoSuchElementException("no such piece");
        }
        Piece asked = pieceList.get(piece);
        if (!asked.isCounted) {
            throw new NoSuchElementException("a piece not counted");
        }
        return asked.number;
    }

    // ---- years

    public int likeness(int number, int value, int span) {
        return isSpan(span) ? likenessOf(number, value, span) : NONE;
    }

    public int years(int number, int span) {
        if (!isSpan(span)) {
            return NONE;
        }
        for (int year = 0; year < YEARS; year++) {
            marked[year] = gap(cloth.curve.at(year), number) <= span;
        }
        numbers.clear();
        int told = 0;
        for (int year = 0; year < YEARS; year++) {
            if (startsSpan(year)) {
                told++;
            }
            if (told <= TOLD_SPANS && startsSpan(year)) {
                numbers.add(year);
            }
            if (told <= TOLD_SPANS && endsSpan(year)) {
                numbers.add(year);
            }
        }
        return told;
    }

    public int likely(int pieces) {
        if (!areCounted(pieces, 1, MOST_WEIGHED)) {
            return NONE;
        }
        long all = weighYears(pieces);
        if (all == 0) {
            return NO_ANSWER;
        }
        clearMarks();
        int best = heaviestUnmarked();
        numbers.clear();
        numbers.addFraction(yearWeights[best], all);
        return best;
    }

    public int within(int pieces, int p) {
        if (!areCounted(pieces, 1, MOST_WEIGHED) || !isIn(p, 1, 100)) {
            return NONE;
        }
        long all = weighYears(pieces);
        if (all == 0) {
            return NO_ANSWER;
        }
        clearMarks();
        int taken = 0;
        long sum = 0;
        while (taken < YEARS && sum * 100 < all * p) {
            int next = heaviestUnmarked();
            marked[next] = true;
            sum += yearWeights[next];
            taken++;
        }
        tellMarked();
        return taken;
    }

    public int between(int pieces, int from, int to) {
        if (!areCounted(pieces, 1, MOST_WEIGHED) || !isYear(from) || !isYear(to) || from > to) {
            return NONE;
        }
        long all = weighYears(pieces);
        if (all == 0) {
            return NO_ANSWER;
        }
        long sum = 0;
        for (int year = from; year <= to; year++) {
            sum += yearWeights[year];
        }
        numbers.clear();
        numbers.addFraction(sum, all);
        return 0;
    }

    // ---- houses that differ

    public int apart(int pieces) {
        if (!areCounted(pieces, 2, 4)) {
            return NONE;
        }
        long upper = apartUpper(pieces);
        long lower = apartLower(pieces);
        numbers.clear();
        numbers.addFraction(upper, lower);
        return upper * 100 > lower * APART_BOUNDS[Integer.bitCount(pieces)] ? 1 : 0;
    }

    public int slope(int pieces) {
        if (!areCounted(pieces, 2, MOST_WEIGHED)) {
            return NONE;
        }
        int n = layOut(pieces);
        long lower = slopeLower(n);
        if (lower == 0) {
            return NO_ANSWER;
        }
        long upper = slopeUpper(n, 0);
        numbers.clear();
        numbers.addFraction(upper, lower);
        return upper > 0 ? 1 : upper < 0 ? 2 : 0;
    }

    public int lot(int pieces) {
        if (!areCounted(pieces, 2, MOST_WEIGHED)) {
            return NONE;
        }
        int n = layOut(pieces);
        if (slopeLower(n) == 0) {
            return NO_ANSWER;
        }
        int ways = 1;
        for (int i = 2; i <= n; i++) {
            ways *= i;
        }
        long steep = Math.abs(slopeUpper(n, 0));
        int asSteep = 0;
        for (int turn = 0; turn < ways; turn++) {
            if (Math.abs(slopeUpper(n, turn)) >= steep) {
                asSteep++;
            }
        }
        numbers.clear();
        numbers.addFraction(asSteep, ways);
        return 0;
    }

    public int odd(int pieces) {
        if (!areCounted(pieces, 3, 4)) {
            return NONE;
        }
        int best = NONE;
        long bestUpper = 0;
        long bestLower = 1;
        for (int i = 0; i < pieceCount(); i++) {
            if (!has(pieces, i)) {
                continue;
            }
            long upper = apartUpper(without(pieces, i));
            long lower = apartLower(without(pieces, i));
            if (best == NONE || upper * bestLower < bestUpper * lower) {
                best = i;
                bestUpper = upper;
                bestLower = lower;
            }
        }
        numbers.clear();
        numbers.addFraction(bestUpper, bestLower);
        return best;
    }

    // ---- younger stuff

    public int younger(int year, int stuff, int number) {
        if (!isYear(year) || !isYear(stuff)) {
            return NONE;
        }
        int old = cloth.curve.at(year);
        int young = cloth.curve.at(stuff);
        for (int share = 0; share <= 100; share++) {
            if (mixOf(old, young, share) <= number) {
                return share;
            }
        }
        return NO_ANSWER;
    }

    public int must(int stuff, int share, int number) {
        if (!isYear(stuff) || !isIn(share, 0, 100)) {
            return NONE;
        }
        int young = cloth.curve.at(stuff);
        int best = 0;
        long nearest = gap(mixOf(cloth.curve.at(0), young, share), number);
        for (int year = 1; year < YEARS; year++) {
            long far = gap(mixOf(cloth.curve.at(year), young, share), number);
            if (far < nearest) {
                best = year;
                nearest = far;
            }
        }
        numbers.clear();
        numbers.add(nearest);
        return best;
    }

    // ---- stories

    public int story() {
        if (storyList.size() >= MOST_STORIES) {
            text.cut(0);
            return STORIES_FULL;
        }
        Story told = new Story();
        told.read(text);
        text.cut(0);
        if (!text.isRight()) {
            return -1 - text.wrong;
        }
        storyList.add(told);
        return storyList.size() - 1;
    }

    public int faith(int story, int v) {
        if (!isStory(story) || !isIn(v, 0, MOST_FAITH)) {
            return NONE;
        }
        Story changed = storyList.get(story);
        int was = changed.faith;
        changed.faith = v;
        return was;
    }

    public int would(int story, int piece, int year) throws NoSuchElementException {
        if (!isStory(story) || !isPiece(piece) || !isYear(year)) {
            throw new NoSuchElementException("no such story, piece or year");
        }
        return wouldBe(storyList.get(story), pieceList.get(piece), year);
    }

    public int paper(int year, boolean seen, int trust) {
        if (!isYear(year) || !isIn(trust, 1, MOST_TRUST) || paperList.size() >= MOST_PAPERS) {
            return NONE;
        }
        paperList.add(new Paper(year, seen, trust));
        return paperList.size() - 1;
    }

    public int odds(int pieces) {
        if (!areForStories(pieces)) {
            return NONE;
        }
        int greatest = greatestStory(pieces, NONE);
        if (greatest == NONE) {
            return NO_ANSWER;
        }
        long all = 0;
        for (int i = 0; i < storyCount(); i++) {
            all += storyWeights[i];
        }
        numbers.clear();
        for (int i = 0; i < storyCount(); i++) {
            numbers.addFraction(storyWeights[i], all);
        }
        return greatest;
    }

    public int when(int story, int pieces) {
        if (!isStory(story) || !areCounted(pieces, 1, MOST_STORY_PIECES)) {
            return NONE;
        }
        Story asked = storyList.get(story);
        int best = NO_ANSWER;
        long greatest = 0;
        for (int year = asked.firstYear(); year <= asked.lastYear(); year++) {
            long part = partOf(asked, pieces, year, NONE);
            if (part > greatest) {
                best = year;
                greatest = part;
            }
        }
        return best;
    }

    public int first(int pieces) {
        if (!areForStories(pieces)) {
            return NONE;
        }
        int greatest = greatestStory(pieces, NONE);
        if (greatest == NONE) {
            return NO_ANSWER;
        }
        for (int paper = 0; paper < paperList.size(); paper++) {
            int other = greatestStory(pieces, paper);
            if (other != NONE && other != greatest) {
                numbers.clear();
                numbers.add(other);
                return paper;
            }
        }
        return NO_ANSWER;
    }

    public int needs(int story) {
        if (!isStory(story)) {
            return NONE;
        }
        int terms = storyList.get(story).terms;
        numbers.clear();
        numbers.add(terms);
        return Integer.bitCount(terms);
    }

    // ---- plans

    public int parts(int piece, int year) {
        if (!isPiece(piece) || !isYear(year)) {
            return NONE;
        }
        int parted = pairsPartedBy(pieceList.get(piece), year);
        numbers.clear();
        tellFirstPairOutside(parted);
        return Integer.bitCount(parted);
    }

    public int next(int year) {
        if (!isYear(year) || storyList.isEmpty()) {
            return NONE;
        }
        int best = NO_ANSWER;
        int most = NONE;
        for (int i = 0; i < pieceCount(); i++) {
            Piece asked = pieceList.get(i);
            int parted = asked.isCounted ? NONE : Integer.bitCount(pairsPartedBy(asked, year));
            if (parted > most) {
                best = i;
                most = parted;
            }
        }
        if (best != NO_ANSWER) {
            numbers.clear();
            numbers.add(most);
        }
        return best;
    }

    public int fewest(int year) {
        if (!isYear(year)) {
            return NONE;
        }
        int size = pieceCount();
        for (int i = 0; i < size; i++) {
            partedBy[i] = pairsPartedBy(pieceList.get(i), year);
        }
        int best = NONE;
        for (int bits = 0; bits < 1 << size; bits++) {
            boolean isFewer = best == NONE || Integer.bitCount(bits) < Integer.bitCount(best);
            if (isFewer && partedByAny(bits) == allPairs()) {
                best = bits;
            }
        }
        if (best == NONE) {
            return NO_ANSWER;
        }
        numbers.clear();
        numbers.add(best);
        return Integer.bitCount(best);
    }

    public int where(int year) {
        if (!isYear(year) || storyList.isEmpty()) {
            return NONE;
        }
        int most = NONE;
        for (int x = 0; x < WIDTH; x++) {
            for (int y = 0; y < HEIGHT; y++) {
                for (int way = 0; way < WAYS; way++) {
                    layBares(x, y, way, year);
                    most = bestHouse(x, y, way, most);
                }
            }
        }
        return most;
    }

    // ---- hidden pieces, hows, who wanted it

    public int like(int weave) {
        int all = allLikes();
        if (!isIn(weave, 0, WEAVES - 1) || all >= MOST_LIKES) {
            return NONE;
        }
        likesByWeave[weave]++;
        return all + 1;
    }

    public int knew(int weave, int k) {
        int all = allLikes();
        if (!isIn(weave, 0, WEAVES - 1) || !isIn(k, 0, all)) {
            return NONE;
        }
        int others = all - likesByWeave[weave];
        long upper = 1;
        long lower = 1;
        for (int i = 0; i < k; i++) {
            upper *= Math.max(0, others - i);
            lower *= all - i;
        }
        numbers.clear();
        numbers.addFraction(upper, lower);
        return 0;
    }

    public boolean how(int how, int needs, int bars) {
        if (!isIn(how, 0, HOWS - 1) || !areMarks(needs, bars)) {
            return false;
        }
        hows[how] = new How(needs, bars);
        return true;
    }

    public int open(int are, int not) {
        if (!areMarks(are, not)) {
            return NONE;
        }
        int allKnown = 0;
        for (int i = 0; i < HOWS; i++) {
            How asked = hows[i];
            if (asked != null && asked.isAllKnown(are, not)) {
                allKnown |= 1 << i;
            }
        }
        numbers.clear();
        numbers.add(allKnown);
        return openHows(are, not);
    }

    public int look(int are, int not) {
        if (!areMarks(are, not)) {
            return NONE;
        }
        int best = NO_ANSWER;
        int fewest = HOWS + 1;
        for (int mark = 0; mark < MARKS; mark++) {
            if (has(are | not, mark)) {
                continue;
            }
            int worst = Math.max(Integer.bitCount(openHows(are | 1 << mark, not)),
                    Integer.bitCount(openHows(are, not | 1 << mark)));
            if (worst < fewest) {
                best = mark;
                fewest = worst;
            }
        }
        if (best != NO_ANSWER) {
            numbers.clear();
            numbers.add(fewest);
        }
        return best;
    }

    public boolean wanted(int person, int story, int papers, int pieces) {
        if (!isIn(person, 0, PERSONS - 1) || !isStory(story)
                || !isIn(papers, 0, (1 << MOST_PAPERS) - 1)
                || !isIn(pieces, 0, (1 << MOST_PIECES) - 1)) {
            return false;
        }
        wants[person] = new Want(story, papers, pieces);
        return true;
    }

    public int omits(int person) {
        Want want = isIn(person, 0, PERSONS - 1) ? wants[person] : null;
        if (want == null || !isStory(want.story)) {
            return NONE;
        }
        Story wantedStory = storyList.get(want.story);
        int papers = papersAgainst(wantedStory) & ~want.papers;
        int pieces = piecesAgainst(wantedStory) & ~want.pieces;
        numbers.clear();
        numbers.add(papers);
        numbers.add(pieces);
        return Integer.bitCount(papers) + Integer.bitCount(pieces);
    }

    // ---- kept

    public int seed(int v) {
        int was = random;
        random = v;
        return was;
    }

    public boolean keep(int i) {
        if (!isIn(i, 0, KEEPS - 1)) {
            return false;
        }
        Kept now = kept[i] != null ? kept[i] : new Kept();
        now.woven = cloth.woven;
        now.random = random;
        now.counted = countedBits();
        for (int p = 0; p < pieceCount(); p++) {
            now.numbers[p] = pieceList.get(p).number;
        }
        for (int s = 0; s < MOST_STORIES; s++) {
            now.faiths[s] = s < storyCount() ? storyList.get(s).faith : 1;
        }
        kept[i] = now;
        return true;
    }

    public boolean again(int i) {
        Kept then = isIn(i, 0, KEEPS - 1) ? kept[i] : null;
        if (then == null) {
            return false;
        }
        cloth.woven = then.woven;
        random = then.random;
        for (int p = 0; p < pieceCount(); p++) {
            Piece back = pieceList.get(p);
            back.number = then.numbers[p];
            back.isCounted = has(then.counted, p);
        }
        for (int s = 0; s < storyCount(); s++) {
            storyList.get(s).faith = then.faiths[s];
        }
        return true;
    }

    public int told(int what) {
        switch (what) {
            case 0: return cloth.curve.points;
            case 1: return cloth.mends.size();
            case 2: return cloth.stuffs.size();
            case 3: return pieceList.size();
            case 4: return countedBits();
            case 5: return storyList.size();
            case 6: return paperList.size();
            case 7: return allLikes();
            case 8: return numbers.size;
            case 9: return text.length;
            case 10: return cloth.woven;
            default: return NONE;
        }
    }

    public long row(int i) throws NoSuchElementException {
        if (i < 0 || i >= numbers.size) {
            throw new NoSuchElementException("no such number in the row");
        }
        return numbers.told[i];
    }

    // ---- what may be asked

    private static boolean isIn(int v, int least, int most) {
        return v >= least && v <= most;
    }

    private static boolean isYear(int year) {
        return isIn(year, 0, LAST_YEAR);
    }

    private static boolean isSpan(int span) {
        return isIn(span, 1, MOST_SPAN);
    }

    private static boolean isPart(int from, int size, int whole) {
        return isIn(from, 0, whole - 1) && isIn(size, 1, whole - from);
    }

    private static boolean isSpot(int x, int y, int way) {
        return isIn(x, 0, WIDTH - 1) && isIn(y, 0, HEIGHT - 1) && isIn(way, 0, WAYS - 1);
    }

    private static boolean areMarks(int some, int others) {
        return isIn(some, 0, ALL_MARKS) && isIn(others, 0, ALL_MARKS) && (some & others) == 0;
    }

    private boolean isPiece(int piece) {
        return piece >= 0 && piece < pieceCount();
    }

    private boolean isStory(int story) {
        return story >= 0 && story < storyCount();
    }

    private boolean areCounted(int pieces, int least, int most) {
        return pieces >= 0 && (pieces & ~countedBits()) == 0
                && isIn(Integer.bitCount(pieces), least, most);
    }

    private boolean areForStories(int pieces) {
        return areCounted(pieces, 1, MOST_STORY_PIECES) && !storyList.isEmpty();
    }

    private int pieceCount() {
        return Math.min(pieceList.size(), MOST_PIECES);
    }

    private int storyCount() {
        return Math.min(storyList.size(), MOST_STORIES);
    }

    private static boolean has(int bits, int i) {
        return (bits & 1 << i) != 0;
    }

    private static int without(int bits, int i) {
        return bits & ~(1 << i);
    }

    // ---- helpers of the cloth and its pieces

    /** A MIX of VALUES; share is that of the second in a hundred. */
    private static int mixOf(int v, int stuffValue, int share) {
        return (v * (100 - share) + stuffValue * share) / 100;
    }

    private static int asSpan(int kind, int entry) {
        int told = kind == 0 ? (byte) entry : kind == 1 ? (short) entry : entry;
        return Math.max(1, Math.min(MOST_SPAN, told));
    }

    private int trueOf(Piece piece) {
        return cloth.threadAt(piece.x, piece.y, piece.way) + slips[piece.house];
    }

    private int lotOf(int n) {
        random = random * 1103515245 + 12345;
        return n > 0 ? (random >>> 16) % n : 0;
    }

    private int countedBits() {
        int bits = 0;
        for (int i = 0; i < pieceCount(); i++) {
            if (pieceList.get(i).isCounted) {
                bits |= 1 << i;
            }
        }
        return bits;
    }

    private int cleanNumber(Piece piece) {
        return piece.number - slips[piece.house];
    }

    private static long gap(long a, long b) {
        return Math.abs(a - b);
    }

    private static int likenessOf(int number, int value, int span) {
        if (span < 1) {
            return 0;
        }
        long d = 2 * gap(number, value) / span;
        return d < LIKENESSES.length ? LIKENESSES[(int) d] : 0;
    }

    // ---- helpers of years

    private long weighYears(int pieces) {
        long all = 0;
        for (int year = 0; year < YEARS; year++) {
            yearWeights[year] = weightOf(year, pieces);
            all += yearWeights[year];
        }
        return all;
    }

    private long weightOf(int year, int pieces) {
        int value = cloth.curve.at(year);
        long weight = 1;
        for (int i = 0; i < pieceCount(); i++) {
            if (has(pieces, i)) {
                Piece piece = pieceList.get(i);
                weight *= likenessOf(cleanNumber(piece), value, spans[piece.house]);
            }
        }
        return weight;
    }

    private void clearMarks() {
        for (int year = 0; year < YEARS; year++) {
            marked[year] = false;
        }
    }

    private int heaviestUnmarked() {
        int best = 0;
        long greatest = NONE;
        for (int year = 0; year < YEARS; year++) {
            if (!marked[year] && yearWeights[year] > greatest) {
                best = year;
                greatest = yearWeights[year];
            }
        }
        return best;
    }

    private boolean startsSpan(int year) {
        return marked[year] && (year == 0 || !marked[year - 1]);
    }

    private boolean endsSpan(int year) {
        return marked[year] && (year == LAST_YEAR || !marked[year + 1]);
    }

    private void tellMarked() {
        int from = NONE;
        int to = NONE;
        int told = 0;
        for (int year = 0; year < YEARS; year++) {
            if (marked[year]) {
                from = from == NONE ? year : from;
                to = year;
            }
            if (startsSpan(year)) {
                told++;
            }
        }
        numbers.clear();
        numbers.add(from);
        numbers.add(to);
        numbers.add(told);
    }

    // ---- helpers of houses that differ

    /** Both numbers of how far they are apart are taken times this, so that whole numbers do. */
    private long squaresOf(int pieces) {
        long product = 1;
        for (int i = 0; i < pieceCount(); i++) {
            if (has(pieces, i)) {
                long span = spans[pieceList.get(i).house];
                product *= span * span;
            }
        }
        return product;
    }

    private long apartUpper(int pieces) {
        long sum = 0;
        for (int i = 0; i < pieceCount(); i++) {
            for (int j = i + 1; j < pieceCount(); j++) {
                if (has(pieces, i) && has(pieces, j)) {
                    long far = cleanNumber(pieceList.get(i)) - cleanNumber(pieceList.get(j));
                    sum += far * far * squaresOf(without(without(pieces, i), j));
                }
            }
        }
        return sum;
    }

    private long apartLower(int pieces) {
        long sum = 0;
        for (int i = 0; i < pieceCount(); i++) {
            if (has(pieces, i)) {
                sum += squaresOf(without(pieces, i));
            }
        }
        return sum;
    }

    private int layOut(int pieces) {
        int n = 0;
        for (int i = 0; i < pieceCount() && n < MOST_WEIGHED; i++) {
            if (has(pieces, i)) {
                places[n] = pieceList.get(i).x;
                counts[n] = cleanNumber(pieceList.get(i));
                n++;
            }
        }
        return n;
    }

    private long slopeLower(int n) {
        long sum = 0;
        long squares = 0;
        for (int i = 0; i < n; i++) {
            sum += places[i];
            squares += places[i] * places[i];
        }
        return n * squares - sum * sum;
    }

    /** Each turn puts the numbers to the places another way; turn 0 leaves them where they are. */
    private long slopeUpper(int n, int turn) {
        long sumOfPlaces = 0;
        long sumOfCounts = 0;
        long products = 0;
        int left = (1 << n) - 1;
        int rest = turn;
        for (int i = 0; i < n; i++) {
            int choices = n - i;
            int picked = bitNumber(left, rest % choices);
            rest /= choices;
            left = without(left, picked);
            sumOfPlaces += places[i];
            sumOfCounts += counts[i];
            products += places[i] * counts[picked];
        }
        return n * products - sumOfPlaces * sumOfCounts;
    }

    private static int bitNumber(int bits, int wantedBit) {
        int left = wantedBit;
        for (int i = 0; i < MOST_WEIGHED; i++) {
            if (has(bits, i) && left == 0) {
                return i;
            }
            if (has(bits, i)) {
                left--;
            }
        }
        return 0;
    }

    // ---- helpers of stories

    /** What a STORY would count at a PLACE before any HOUSE has it. */
    private int bareOf(Story story, int x, int y, int way, int year) {
        int threadYear = story.mends(x, y) ? story.mendYear : story.wovenIn(year);
        int v = cloth.withStuffs(cloth.curve.at(threadYear), x, y, way);
        if (story.hasTerm(Story.STUFFED)) {
            v = mixOf(v, cloth.curve.at(story.stuffYear), story.stuffShare);
        }
        return v + story.drift * x;
    }

    private int houseAdds(Story story, int house) {
        return slips[house] + story.moreOf(house);
    }

    private int wouldBe(Story story, Piece piece, int year) {
        return bareOf(story, piece.x, piece.y, piece.way, year) + houseAdds(story, piece.house);
    }

    private long partOf(Story story, int pieces, int year, int paperLeftOut) {
        long part = 1;
        for (int i = 0; i < pieceCount(); i++) {
            if (has(pieces, i)) {
                Piece piece = pieceList.get(i);
                part *= likenessOf(piece.number, wouldBe(story, piece, year), spans[piece.house]);
            }
        }
        for (int i = 0; i < paperList.size(); i++) {
            if (i != paperLeftOut) {
                part *= paperList.get(i).fitTo(year);
            }
        }
        return part;
    }

    private int greatestStory(int pieces, int paperLeftOut) {
        int best = NONE;
        long greatest = 0;
        for (int i = 0; i < storyCount(); i++) {
            Story story = storyList.get(i);
            long sum = 0;
            for (int year = story.firstYear(); year <= story.lastYear(); year++) {
                sum += partOf(story, pieces, year, paperLeftOut);
            }
            // A STORY that dares to name its YEAR had one chance in all YEARS to name it.
            int dare = story.hasTerm(Story.WOVEN) ? YEARS : 1;
            storyWeights[i] = sum * dare * story.faith;
            if (storyWeights[i] > greatest) {
                best = i;
                greatest = storyWeights[i];
            }
        }
        return best;
    }

    // ---- helpers of plans: pairs of STORIES as bits, (0, 1) first, then (0, 2) ..

    private int allPairs() {
        int n = storyCount();
        return (1 << n * (n - 1) / 2) - 1;
    }

    private void layBares(int x, int y, int way, int year) {
        for (int i = 0; i < storyCount(); i++) {
            bares[i] = bareOf(storyList.get(i), x, y, way, year);
        }
    }

    private int pairsPartedIn(int house) {
        int parted = 0;
        int pair = 0;
        int n = storyCount();
        for (int i = 0; i < n; i++) {
            int one = bares[i] + houseAdds(storyList.get(i), house);
            for (int j = i + 1; j < n; j++) {
                int other = bares[j] + houseAdds(storyList.get(j), house);
                if (gap(one, other) > 2 * spans[house]) {
                    parted |= 1 << pair;
                }
                pair++;
            }
        }
        return parted;
    }

    private int pairsPartedBy(Piece piece, int year) {
        layBares(piece.x, piece.y, piece.way, year);
        return pairsPartedIn(piece.house);
    }

    private int partedByAny(int pieces) {
        int parted = 0;
        for (int i = 0; i < MOST_PIECES; i++) {
            if (has(pieces, i)) {
                parted |= partedBy[i];
            }
        }
        return parted;
    }

    private void tellFirstPairOutside(int parted) {
        int pair = 0;
        for (int i = 0; i < storyCount(); i++) {
            for (int j = i + 1; j < storyCount(); j++) {
                if (!has(parted, pair)) {
                    numbers.add(i);
                    numbers.add(j);
                    return;
                }
                pair++;
            }
        }
    }

    private int bestHouse(int x, int y, int way, int mostSoFar) {
        int most = mostSoFar;
        for (int house = 0; house < HOUSES; house++) {
            int parted = Integer.bitCount(pairsPartedIn(house));
            if (parted > most) {
                most = parted;
                numbers.clear();
                numbers.add(x);
                numbers.add(y);
                numbers.add(way);
                numbers.add(house);
            }
        }
        return most;
    }

    // ---- helpers of hidden pieces, hows, who wanted it

    private int allLikes() {
        int all = 0;
        for (int weave = 0; weave < WEAVES; weave++) {
            all += likesByWeave[weave];
        }
        return all;
    }

    private int openHows(int are, int not) {
        int bits = 0;
        for (int i = 0; i < HOWS; i++) {
            How asked = hows[i];
            if (asked != null && asked.isOpen(are, not)) {
                bits |= 1 << i;
            }
        }
        return bits;
    }

    private int papersAgainst(Story story) {
        int year = story.wovenIn(cloth.woven);
        int bits = 0;
        for (int i = 0; i < paperList.size(); i++) {
            if (paperList.get(i).fitTo(year) < AGAINST_FIT) {
                bits |= 1 << i;
            }
        }
        return bits;
    }

    private int piecesAgainst(Story story) {
        int bits = 0;
        for (int i = 0; i < pieceCount(); i++) {
            Piece piece = pieceList.get(i);
            int likeness = likenessOf(piece.number, wouldBe(story, piece, cloth.woven),
                    spans[piece.house]);
            if (piece.isCounted && likeness < AGAINST_LIKENESS) {
                bits |= 1 << i;
            }
        }
        return bits;
    }

    /** THE TEXT, and a reader of it that stays at the first sign that can't stand where it does. */
    private static final class Text {
        private static final int MOST_SIGNS = 80;
        private static final int MOST_DIGITS = 3;

        private final char[] signs = new char[MOST_SIGNS];
        private int length;
        private int at;
        private int bound;
        private int wrong = NONE;

        int append(int v) {
            if (length > MOST_SIGNS - 4) {
                return NONE;
            }
            for (int shift = 24; shift >= 0; shift -= 8) {
                signs[length] = (char) (v >>> shift & 255);
                length++;
            }
            return length;
        }

        boolean cut(int n) {
            if (n < 0 || n > length) {
                return false;
            }
            length = n;
            return true;
        }

        void begin(int mostSigns) {
            at = 0;
            bound = Math.min(length, mostSigns);
            wrong = NONE;
        }

        boolean isRight() {
            return wrong == NONE;
        }

        void failAt(int p) {
            if (wrong == NONE) {
                wrong = p;
            }
        }

        int here() {
            return at < bound ? signs[at] : NONE;
        }

        boolean skip(char sign) {
            if (wrong != NONE || here() != sign) {
                return false;
            }
            at++;
            return true;
        }

        void pass(char sign) {
            if (!skip(sign)) {
                failAt(at);
            }
        }

        int digit(int most) {
            int d = here() - '0';
            if (!isIn(d, 0, most)) {
                failAt(at);
                return 0;
            }
            at++;
            return d;
        }

        int number(int most) {
            int n = digit(9);
            for (int digits = 1; digits < MOST_DIGITS && isIn(here(), '0', '9'); digits++) {
                n = n * 10 + digit(9);
            }
            if (n > most) {
                failAtLastDigit();
            }
            return n;
        }

        int signedNumber(int most) {
            int by = skip('-') ? -1 : 1;
            return by * number(most);
        }

        void failAtLastDigit() {
            failAt(at - 1);
        }

        void finish(int mostSigns) {
            if (at < bound) {
                failAt(at);
            }
            if (length > mostSigns) {
                failAt(mostSigns);
            }
        }
    }

    /** THE CURVE, as the VALUE of each YEAR. */
    private static final class Curve {
        private static final int MOST_SIGNS = 60;
        /** More than 60 signs can tell. */
        private static final int MOST_POINTS = 20;
        private static final int MOST_VALUE = 999;

        private final int[] values = new int[YEARS];
        private int points = 1;
        private final int[] readYears = new int[MOST_POINTS];
        private final int[] readValues = new int[MOST_POINTS];

        int at(int year) {
            return year >= 0 && year < YEARS ? values[year] : 0;
        }

        int read(Text text) {
            text.begin(MOST_SIGNS);
            int n = readPoints(text);
            text.finish(MOST_SIGNS);
            if (!text.isRight()) {
                return -1 - text.wrong;
            }
            points = n;
            for (int year = 0; year < YEARS; year++) {
                values[year] = valueBy(year, n);
            }
            return n;
        }

        private int readPoints(Text text) {
            int n = 0;
            boolean goesOn = true;
            while (goesOn && n < MOST_POINTS) {
                int year = text.number(LAST_YEAR);
                if (n > 0 && year <= readYears[n - 1]) {
                    text.failAtLastDigit();
                }
                text.pass(':');
                readYears[n] = year;
                readValues[n] = text.number(MOST_VALUE);
                n++;
                goesOn = text.skip(';');
            }
            return n;
        }

        private int valueBy(int year, int n) {
            int behind = 0;
            while (behind < n && readYears[behind] < year) {
                behind++;
            }
            if (behind == 0) {
                return readValues[0];
            }
            int value = readValues[behind - 1];
            int step = behind < n ? readYears[behind] - readYears[behind - 1] : 0;
            if (step <= 0) {
                return value;
            }
            return value + (readValues[behind] - value) * (year - readYears[behind - 1]) / step;
        }
    }

    private static final class Cloth {
        private final Curve curve = new Curve();
        private int woven = 100;
        private final ArrayList<Patch> mends = new ArrayList<Patch>();
        private final ArrayList<Patch> stuffs = new ArrayList<Patch>();
        private final int[] goes = new int[WAYS];

        int threadAt(int x, int y, int way) {
            int year = woven;
            for (int i = 0; i < mends.size(); i++) {
                if (mends.get(i).covers(x, y)) {
                    year = mends.get(i).year;
                }
            }
            return withStuffs(curve.at(year), x, y, way);
        }

        int withStuffs(int v, int x, int y, int way) {
            int gone = isIn(way, 0, WAYS - 1) ? goes[way] : 0;
            int mixed = v;
            for (int i = 0; i < stuffs.size(); i++) {
                Patch stuff = stuffs.get(i);
                if (stuff.covers(x, y)) {
                    mixed = mixOf(mixed, curve.at(stuff.year), stuff.share * (100 - gone) / 100);
                }
            }
            return mixed;
        }
    }

    /** A MEND or STUFF: a rectangle of PLACES. */
    private static final class Patch {
        private final int x;
        private final int y;
        private final int wide;
        private final int high;
        private final int year;
        private final int share;

        Patch(int x, int y, int wide, int high, int year, int share) {
            this.x = x;
            this.y = y;
            this.wide = wide;
            this.high = high;
            this.year = year;
            this.share = share;
        }

        boolean covers(int atX, int atY) {
            return atX >= x && atX < x + wide && atY >= y && atY < y + high;
        }
    }

    private static final class Piece {
        private final int x;
        private final int y;
        private final int way;
        private final int house;
        private boolean isCounted;
        private int number;

        Piece(int x, int y, int way, int house) {
            this.x = x;
            this.y = y;
            this.way = way;
            this.house = house;
        }

        void tell(int told) {
            number = told;
            isCounted = true;
        }
    }

    private static final class Story {
        private static final int MOST_SIGNS = 40;
        private static final int MOST_TERMS = 5;
        private static final int WOVEN = 1;
        private static final int STUFFED = 2;
        private static final int MENDED = 4;
        private static final int DRIFTS = 8;
        private static final int HOUSE_OFF = 16;
        private static final int MEND_WIDE = 4;
        private static final int MEND_HIGH = 2;
        private static final int MOST_OFF = 99;

        private int terms;
        private int faith = 1;
        private int wovenYear;
        private int stuffYear;
        private int stuffShare;
        private int mendYear;
        private int drift;
        private int offHouse;
        private int offMore;

        boolean hasTerm(int term) {
            return (terms & term) != 0;
        }

        int firstYear() {
            return hasTerm(WOVEN) ? wovenYear : 0;
        }

        int lastYear() {
            return hasTerm(WOVEN) ? wovenYear : LAST_YEAR;
        }

        int wovenIn(int year) {
            return hasTerm(WOVEN) ? wovenYear : year;
        }

        boolean mends(int x, int y) {
            return hasTerm(MENDED) && x < MEND_WIDE && y < MEND_HIGH;
        }

        int moreOf(int house) {
            return hasTerm(HOUSE_OFF) && house == offHouse ? offMore : 0;
        }

        void read(Text text) {
            text.begin(MOST_SIGNS);
            boolean goesOn = text.length > 0;
            // One turn more than there are TERMS: a sixth is told twice, and is wrong at its letter.
            for (int turn = 0; turn <= MOST_TERMS && goesOn; turn++) {
                readTerm(text);
                goesOn = text.skip(';');
            }
            text.finish(MOST_SIGNS);
        }

        private void readTerm(Text text) {
            int term = termOf(text.here());
            if (term == 0 || hasTerm(term)) {
                text.failAt(text.at);
                return;
            }
            text.at++;
            terms |= term;
            if (term == WOVEN) {
                wovenYear = text.number(LAST_YEAR);
            } else if (term == MENDED) {
                mendYear = text.number(LAST_YEAR);
            } else if (term == DRIFTS) {
                drift = text.signedNumber(MOST_OFF);
            } else if (term == STUFFED) {
                stuffYear = text.number(LAST_YEAR);
                text.pass(',');
                stuffShare = text.number(MOST_SHARE);
            } else {
                offHouse = text.digit(HOUSES - 1);
                text.pass(',');
                offMore = text.signedNumber(MOST_OFF);
            }
        }

        private static int termOf(int letter) {
            switch (letter) {
                case 'w': return WOVEN;
                case 's': return STUFFED;
                case 'm': return MENDED;
                case 'd': return DRIFTS;
                case 'h': return HOUSE_OFF;
                default: return 0;
            }
        }
    }

    private static final class Paper {
        private final int year;
        private final boolean isSeen;
        private final int trust;

        Paper(int year, boolean isSeen, int trust) {
            this.year = year;
            this.isSeen = isSeen;
            this.trust = trust;
        }

        int fitTo(int wovenYear) {
            boolean isLater = wovenYear > year;
            return isSeen != isLater ? trust : 10 - trust;
        }
    }

    private static final class How {
        private final int needed;
        private final int barred;

        How(int needed, int barred) {
            this.needed = needed;
            this.barred = barred;
        }

        boolean isOpen(int are, int not) {
            return (needed & not) == 0 && (barred & are) == 0;
        }

        boolean isAllKnown(int are, int not) {
            return (needed & ~are) == 0 && (barred & ~not) == 0;
        }
    }

    /** What a PERSON wants it to be, and says. */
    private static final class Want {
        private final int story;
        private final int papers;
        private final int pieces;

        Want(int story, int papers, int pieces) {
            this.story = story;
            this.papers = papers;
            this.pieces = pieces;
        }
    }

    private static final class Kept {
        private int woven;
        private int random;
        private int counted;
        private final int[] numbers = new int[MOST_PIECES];
        private final int[] faiths = new int[MOST_STORIES];
    }

    /** THE ROW: the numbers told last. */
    private static final class Row {
        private static final int MOST_NUMBERS = 2 * TOLD_SPANS;
        /** Above what any two longs need. */
        private static final int MOST_DIVISIONS = 200;

        private final long[] told = new long[MOST_NUMBERS];
        private int size;

        void clear() {
            size = 0;
        }

        void add(long number) {
            if (size < MOST_NUMBERS) {
                told[size] = number;
                size++;
            }
        }

        /** In lowest terms. */
        void addFraction(long upper, long lower) {
            long common = commonOf(Math.abs(upper), lower);
            add(common > 0 ? upper / common : upper);
            add(common > 0 ? lower / common : lower);
        }

        private static long commonOf(long a, long b) {
            long one = a;
            long other = b;
            for (int i = 0; i < MOST_DIVISIONS && other != 0; i++) {
                long rest = one % other;
                one = other;
                other = rest;
            }
            return one;
        }
    }
}
