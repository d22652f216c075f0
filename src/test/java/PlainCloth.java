import java.math.BigInteger;
import java.util.ArrayList;
import java.util.Arrays;
import java.util.LinkedHashMap;
import java.util.List;
import java.util.Map;
import java.util.NoSuchElementException;
import java.util.TreeMap;
import java.util.TreeSet;
import java.util.regex.Matcher;
import java.util.regex.Pattern;

/**
 * The document once more, written by the letter and with no care for speed, to hold the class against. It shares
 * no code with the class on purpose.
 */
final class PlainCloth {
    private static final long NONE = -1;
    private static final BigInteger ZERO = BigInteger.ZERO;

    String text = "";
    List<Long> row = new ArrayList<>();
    private TreeMap<Integer, Integer> points = new TreeMap<>(Map.of(0, 0));
    private int woven = 100;
    private final List<int[]> mends = new ArrayList<>();
    private final List<int[]> stuffs = new ArrayList<>();
    private final int[] goes = new int[4];
    private final int[] slips = new int[6];
    private final int[] spans = {20, 20, 20, 20, 20, 20};
    private final List<int[]> pieces = new ArrayList<>();
    private Map<Integer, Integer> counted = new TreeMap<>();
    private final List<Map<Character, int[]>> stories = new ArrayList<>();
    private Map<Integer, Integer> faiths = new TreeMap<>();
    private final List<int[]> papers = new ArrayList<>();
    private final List<Integer> likes = new ArrayList<>();
    private final Map<Integer, int[]> hows = new TreeMap<>();
    private final Map<Integer, int[]> wants = new TreeMap<>();
    private final Map<Integer, Object[]> kept = new TreeMap<>();
    private int r = 1;

    private static boolean in(long v, long least, long most) {
        return least <= v && v <= most;
    }

    private static boolean year(int v) {
        return in(v, 0, 199);
    }

    private void tell(long... numbers) {
        row = new ArrayList<>();
        for (long number : numbers) {
            row.add(number);
        }
    }

    private static long[] fraction(BigInteger upper, BigInteger lower) {
        BigInteger common = upper.gcd(lower);
        return new long[] {upper.divide(common).longValueExact(), lower.divide(common).longValueExact()};
    }

    private static BigInteger big(long v) {
        return BigInteger.valueOf(v);
    }

    private static NoSuchElementException none() {
        return new NoSuchElementException();
    }

    // ---- the cloth

    long sign(int v) {
        if (text.length() + 4 > 80) {
            return NONE;
        }
        text = text + (char) (v >> 24 & 255) + (char) (v >> 16 & 255) + (char) (v >> 8 & 255) + (char) (v & 255);
        return text.length();
    }

    long end(int n) {
        if (n < 0 || n > text.length()) {
            return 0;
        }
        text = text.substring(0, n);
        return 1;
    }

    /** Thrown with the place of the first sign that can't stand where it does. */
    private static final class Wrong extends Exception {
        private static final long serialVersionUID = 1;
        final int p;

        Wrong(int p) {
            this.p = p;
        }
    }

    /** Reads one NUMBER of 1 to 3 digits that a part of a text begins with; from is where the part begins. */
    private static String digits(String part, int from, int most) throws Wrong {
        Matcher m = Pattern.compile("^[0-9]{1,3}").matcher(part);
        if (!m.find()) {
            throw new Wrong(from);
        }
        if (Integer.parseInt(m.group()) > most) {
            throw new Wrong(from + m.end() - 1);
        }
        return m.group();
    }

    private static void sign(String part, int p, int from, char due) throws Wrong {
        if (p >= part.length() || part.charAt(p) != due) {
            throw new Wrong(from + p);
        }
    }

    private static void ended(String part, int p, int from) throws Wrong {
        if (p < part.length()) {
            throw new Wrong(from + p);
        }
    }

    long curve() {
        String all = text;
        text = "";
        String first = all.substring(0, Math.min(60, all.length()));
        TreeMap<Integer, Integer> read = new TreeMap<>();
        try {
            int from = 0;
            for (String part : first.split(";", -1)) {
                String y = digits(part, from, 199);
                if (!read.isEmpty() && Integer.parseInt(y) <= read.lastKey()) {
                    throw new Wrong(from + y.length() - 1);
                }
                sign(part, y.length(), from, ':');
                String v = digits(part.substring(y.length() + 1), from + y.length() + 1, 999);
                ended(part, y.length() + 1 + v.length(), from);
                read.put(Integer.parseInt(y), Integer.parseInt(v));
                from += part.length() + 1;
            }
            if (all.length() > 60) {
                throw new Wrong(60);
            }
        } catch (Wrong w) {
            return -1 - w.p;
        }
        points = read;
        return points.size();
    }

    private int at(int year) {
        Map.Entry<Integer, Integer> ahead = points.floorEntry(year);
        Map.Entry<Integer, Integer> behind = points.ceilingEntry(year);
        if (ahead == null) {
            return behind.getValue();
        }
        if (behind == null || behind.getKey().equals(ahead.getKey())) {
            return ahead.getValue();
        }
        int product = (behind.getValue() - ahead.getValue()) * (year - ahead.getKey());
        return ahead.getValue() + product / (behind.getKey() - ahead.getKey());
    }

    long value(int year) {
        return year(year) ? at(year) : NONE;
    }

    long woven(int year) {
        if (!year(year)) {
            return NONE;
        }
        int was = woven;
        woven = year;
        return was;
    }

    private static boolean rectangle(int x, int y, int wide, int high) {
        return x >= 0 && y >= 0 && wide >= 1 && high >= 1 && (long) x + wide <= 24 && (long) y + high <= 8;
    }

    long mend(int x, int y, int wide, int high, int year) {
        if (!rectangle(x, y, wide, high) || !year(year) || mends.size() == 6) {
            return NONE;
        }
        mends.add(new int[] {x, y, wide, high, year});
        return mends.size() - 1;
    }

    long stuff(int x, int y, int wide, int high, int year, int share) {
        if (!rectangle(x, y, wide, high) || !year(year) || !in(share, 0, 90) || stuffs.size() == 6) {
            return NONE;
        }
        stuffs.add(new int[] {x, y, wide, high, year, share});
        return stuffs.size() - 1;
    }

    long way(int way, int v) {
        if (!in(way, 0, 3) || !in(v, 0, 100)) {
            return NONE;
        }
        int was = goes[way];
        goes[way] = v;
        return was;
    }

    long house(int house, int slip, int span) {
        if (!in(house, 0, 5) || !in(slip, -50, 50) || !in(span, 1, 60)) {
            return 0;
        }
        slips[house] = slip;
        spans[house] = span;
        return 1;
    }

    long sheet(int kind, int n, int f, int step) {
        if (!in(kind, 0, 3) || n > 6) {
            return NONE;
        }
        if (kind == 3) {
            Arrays.fill(spans, 20);
            return -3;
        }
        if (n < 0) {
            return -2;
        }
        Arrays.fill(spans, 20);
        int entry = f;
        for (int house = 0; house < n; house++) {
            int as = kind == 0 ? (byte) entry : kind == 1 ? (short) entry : entry;
            spans[house] = as < 1 ? 1 : as > 60 ? 60 : as;
            entry += step;
        }
        return Arrays.stream(spans).sum();
    }

    private static boolean place(int x, int y, int way) {
        return in(x, 0, 23) && in(y, 0, 7) && in(way, 0, 3);
    }

    private static boolean has(int[] rectangle, int x, int y) {
        return in(x - rectangle[0], 0, rectangle[2] - 1) && in(y - rectangle[1], 0, rectangle[3] - 1);
    }

    private int mixed(int v, int stuffYear, int share) {
        return (v * (100 - share) + at(stuffYear) * share) / 100;
    }

    private int stuffed(int v, int x, int y, int way) {
        for (int[] s : stuffs) {
            if (has(s, x, y)) {
                v = mixed(v, s[4], s[5] * (100 - goes[way]) / 100);
            }
        }
        return v;
    }

    long thread(int x, int y, int way) {
        if (!place(x, y, way)) {
            return NONE;
        }
        int year = woven;
        for (int[] m : mends) {
            year = has(m, x, y) ? m[4] : year;
        }
        return stuffed(at(year), x, y, way);
    }

    // ---- pieces

    private boolean piece(int p) {
        return in(p, 0, pieces.size() - 1);
    }

    long piece(int x, int y, int way, int house) {
        if (!place(x, y, way) || !in(house, 0, 5) || pieces.size() == 12) {
            return NONE;
        }
        pieces.add(new int[] {x, y, way, house});
        return pieces.size() - 1;
    }

    long truth(int p) {
        if (!piece(p)) {
            throw none();
        }
        int[] piece = pieces.get(p);
        return thread(piece[0], piece[1], piece[2]) + slips[piece[3]];
    }

    long count(int p, int number) {
        if (!piece(p) || !in(number, -99, 1999)) {
            return 0;
        }
        counted.put(p, number);
        return 1;
    }

    long draw(int p) {
        long truth = truth(p);
        int span = spans[pieces.get(p)[3]];
        r = r * 1103515245 + 12345;
        long unsigned = Integer.toUnsignedLong(r) / 65536;
        counted.put(p, (int) (truth + unsigned % (2 * span + 1) - span));
        return counted.get(p);
    }

    long counted(int p) {
        if (!counted.containsKey(p)) {
            throw none();
        }
        return counted.get(p);
    }

    // ---- years

    private static int alike(long number, long value, long span) {
        long d = 2 * Math.abs(number - value) / span;
        return d == 0 ? 100 : d == 1 ? 88 : d == 2 ? 61 : d == 3 ? 32 : d == 4 ? 14 : d == 5 ? 4 : d == 6 ? 1 : 0;
    }

    long likeness(int number, int value, int span) {
        return in(span, 1, 60) ? alike(number, value, span) : NONE;
    }

    long years(int number, int span) {
        if (!in(span, 1, 60)) {
            return NONE;
        }
        TreeSet<Integer> near = new TreeSet<>();
        for (int y = 0; y < 200; y++) {
            if (Math.abs((long) at(y) - number) <= span) {
                near.add(y);
            }
        }
        List<int[]> found = spansOf(near);
        row = new ArrayList<>();
        for (int[] span1 : found.subList(0, Math.min(10, found.size()))) {
            row.add((long) span1[0]);
            row.add((long) span1[1]);
        }
        return found.size();
    }

    private static List<int[]> spansOf(TreeSet<Integer> years) {
        List<int[]> found = new ArrayList<>();
        for (int y : years) {
            if (found.isEmpty() || found.get(found.size() - 1)[1] != y - 1) {
                found.add(new int[] {y, y});
            }
            found.get(found.size() - 1)[1] = y;
        }
        return found;
    }

    /** The PIECES of these bits; null unless all are COUNTED and so many. */
    private List<Integer> some(int bits, int least, int most) {
        List<Integer> found = new ArrayList<>();
        for (int i = 0; i < 32; i++) {
            if ((bits >>> i & 1) == 1) {
                found.add(i);
            }
        }
        return in(found.size(), least, most) && counted.keySet().containsAll(found) ? found : null;
    }

    private int span(int p) {
        return spans[pieces.get(p)[3]];
    }

    private int clean(int p) {
        return counted.get(p) - slips[pieces.get(p)[3]];
    }

    private BigInteger weight(List<Integer> some, int year) {
        BigInteger product = BigInteger.ONE;
        for (int p : some) {
            product = product.multiply(big(alike(clean(p), at(year), span(p))));
        }
        return product;
    }

    private List<BigInteger> weights(List<Integer> some) {
        List<BigInteger> found = new ArrayList<>();
        for (int y = 0; y < 200; y++) {
            found.add(weight(some, y));
        }
        return found;
    }

    private static BigInteger sum(List<BigInteger> of) {
        return of.stream().reduce(ZERO, BigInteger::add);
    }

    private static int firstGreatest(List<BigInteger> of) {
        int best = 0;
        for (int i = 1; i < of.size(); i++) {
            best = of.get(i).compareTo(of.get(best)) > 0 ? i : best;
        }
        return best;
    }

    long likely(int bits) {
        List<Integer> some = some(bits, 1, 6);
        if (some == null) {
            return NONE;
        }
        List<BigInteger> weights = weights(some);
        if (sum(weights).signum() == 0) {
            return -2;
        }
        int best = firstGreatest(weights);
        tell(fraction(weights.get(best), sum(weights)));
        return best;
    }

    long within(int bits, int p) {
        List<Integer> some = some(bits, 1, 6);
        if (some == null || !in(p, 1, 100)) {
            return NONE;
        }
        List<BigInteger> weights = weights(some);
        BigInteger all = sum(weights);
        if (all.signum() == 0) {
            return -2;
        }
        List<Integer> order = new ArrayList<>();
        for (int y = 0; y < 200; y++) {
            order.add(y);
        }
        order.sort((a, b) -> {
            int by = weights.get(b).compareTo(weights.get(a));
            return by != 0 ? by : Integer.compare(a, b);
        });
        for (int n = 1; n <= 200; n++) {
            BigInteger sum = ZERO;
            for (int y : order.subList(0, n)) {
                sum = sum.add(weights.get(y));
            }
            if (sum.multiply(big(100)).compareTo(all.multiply(big(p))) >= 0) {
                TreeSet<Integer> taken = new TreeSet<>(order.subList(0, n));
                tell(taken.first(), taken.last(), spansOf(taken).size());
                return n;
            }
        }
        throw new IllegalStateException("all of them must be enough");
    }

    long between(int bits, int from, int to) {
        List<Integer> some = some(bits, 1, 6);
        if (some == null || !year(from) || !year(to) || from > to) {
            return NONE;
        }
        List<BigInteger> weights = weights(some);
        if (sum(weights).signum() == 0) {
            return -2;
        }
        tell(fraction(sum(weights.subList(from, to + 1)), sum(weights)));
        return 0;
    }

    // ---- houses that differ: fractions as upper and lower numbers that are added up one by one

    private static BigInteger[] plus(BigInteger[] a, BigInteger[] b) {
        return new BigInteger[] {a[0].multiply(b[1]).add(b[0].multiply(a[1])), a[1].multiply(b[1])};
    }

    private BigInteger[] far(List<Integer> some) {
        BigInteger[] upper = {ZERO, BigInteger.ONE};
        BigInteger[] lower = {ZERO, BigInteger.ONE};
        for (int p : some) {
            BigInteger square = big((long) span(p) * span(p));
            lower = plus(lower, new BigInteger[] {BigInteger.ONE, square});
            for (int q : some) {
                if (p < q) {
                    BigInteger far = big(clean(p) - clean(q));
                    BigInteger both = square.multiply(big((long) span(q) * span(q)));
                    upper = plus(upper, new BigInteger[] {far.multiply(far), both});
                }
            }
        }
        return new BigInteger[] {upper[0].multiply(lower[1]), upper[1].multiply(lower[0])};
    }

    private static int compare(BigInteger[] a, BigInteger[] b) {
        return a[0].multiply(b[1]).compareTo(b[0].multiply(a[1]));
    }

    long apart(int bits) {
        List<Integer> some = some(bits, 2, 4);
        if (some == null) {
            return NONE;
        }
        BigInteger[] far = far(some);
        tell(fraction(far[0], far[1]));
        int bound = some.size() == 2 ? 384 : some.size() == 3 ? 599 : 781;
        return compare(far, new BigInteger[] {big(bound), big(100)}) > 0 ? 1 : 0;
    }

    private long upperSlope(List<Integer> some, List<Integer> numbers) {
        long products = 0;
        long xs = 0;
        long all = 0;
        for (int i = 0; i < some.size(); i++) {
            int x = pieces.get(some.get(i))[0];
            products += (long) x * numbers.get(i);
            xs += x;
            all += numbers.get(i);
        }
        return some.size() * products - xs * all;
    }

    private long lowerSlope(List<Integer> some) {
        long squares = 0;
        long xs = 0;
        for (int p : some) {
            int x = pieces.get(p)[0];
            squares += x * x;
            xs += x;
        }
        return some.size() * squares - xs * xs;
    }

    private List<Integer> cleanOnes(List<Integer> some) {
        List<Integer> found = new ArrayList<>();
        for (int p : some) {
            found.add(clean(p));
        }
        return found;
    }

    long slope(int bits) {
        List<Integer> some = some(bits, 2, 6);
        if (some == null) {
            return NONE;
        }
        if (lowerSlope(some) == 0) {
            return -2;
        }
        long upper = upperSlope(some, cleanOnes(some));
        tell(fraction(big(upper), big(lowerSlope(some))));
        return upper > 0 ? 1 : upper < 0 ? 2 : 0;
    }

    private int steep(List<Integer> some, List<Integer> put, List<Integer> left, long least) {
        if (left.isEmpty()) {
            return Math.abs(upperSlope(some, put)) >= least ? 1 : 0;
        }
        int found = 0;
        for (int i = 0; i < left.size(); i++) {
            List<Integer> rest = new ArrayList<>(left);
            List<Integer> more = new ArrayList<>(put);
            more.add(rest.remove(i));
            found += steep(some, more, rest, least);
        }
        return found;
    }

    long lot(int bits) {
        List<Integer> some = some(bits, 2, 6);
        if (some == null) {
            return NONE;
        }
        if (lowerSlope(some) == 0) {
            return -2;
        }
        long least = Math.abs(upperSlope(some, cleanOnes(some)));
        long ways = List.of(1, 1, 2, 6, 24, 120, 720).get(some.size());
        tell(fraction(big(steep(some, new ArrayList<>(), cleanOnes(some), least)), big(ways)));
        return 0;
    }

    long odd(int bits) {
        List<Integer> some = some(bits, 3, 4);
        if (some == null) {
            return NONE;
        }
        int best = -1;
        BigInteger[] least = null;
        for (int p : some) {
            List<Integer> others = new ArrayList<>(some);
            others.remove(Integer.valueOf(p));
            if (least == null || compare(far(others), least) < 0) {
                best = p;
                least = far(others);
            }
        }
        tell(fraction(least[0], least[1]));
        return best;
    }

    // ---- younger stuff

    long younger(int year, int stuff, int number) {
        if (!year(year) || !year(stuff)) {
            return NONE;
        }
        int least = 0;
        while (least <= 100 && mixed(at(year), stuff, least) > number) {
            least++;
        }
        return least > 100 ? -2 : least;
    }

    long must(int stuff, int share, int number) {
        if (!year(stuff) || !in(share, 0, 100)) {
            return NONE;
        }
        TreeMap<Long, Integer> firstByFar = new TreeMap<>();
        for (int y = 199; y >= 0; y--) {
            firstByFar.put(Math.abs((long) mixed(at(y), stuff, share) - number), y);
        }
        tell(firstByFar.firstKey());
        return firstByFar.firstEntry().getValue();
    }

    // ---- stories

    private static int[] term(String part, int from, boolean isToldTwice) throws Wrong {
        if (part.isEmpty() || "wsmdh".indexOf(part.charAt(0)) < 0 || isToldTwice) {
            throw new Wrong(from);
        }
        char letter = part.charAt(0);
        if (letter == 'w' || letter == 'm') {
            String y = digits(part.substring(1), from + 1, 199);
            ended(part, 1 + y.length(), from);
            return new int[] {Integer.parseInt(y)};
        }
        int p = 1;
        int head = 0;
        if (letter == 's') {
            String y = digits(part.substring(1), from + 1, 199);
            p += y.length();
            head = Integer.parseInt(y);
        } else if (letter == 'h') {
            if (part.length() < 2 || "012345".indexOf(part.charAt(1)) < 0) {
                throw new Wrong(from + 1);
            }
            p = 2;
            head = part.charAt(1) - '0';
        }
        if (letter != 'd') {
            sign(part, p, from, ',');
            p++;
        }
        boolean isLess = letter != 's' && p < part.length() && part.charAt(p) == '-';
        p += isLess ? 1 : 0;
        String n = digits(part.substring(p), from + p, letter == 's' ? 90 : 99);
        ended(part, p + n.length(), from);
        return new int[] {head, isLess ? -Integer.parseInt(n) : Integer.parseInt(n)};
    }

    long story() {
        String all = text;
        text = "";
        if (stories.size() == 6) {
            return -100;
        }
        String first = all.substring(0, Math.min(40, all.length()));
        Map<Character, int[]> read = new LinkedHashMap<>();
        try {
            int from = 0;
            for (String part : first.isEmpty() ? new String[0] : first.split(";", -1)) {
                int[] term = term(part, from, !part.isEmpty() && read.containsKey(part.charAt(0)));
                read.put(part.charAt(0), term);
                from += part.length() + 1;
            }
            if (all.length() > 40) {
                throw new Wrong(40);
            }
        } catch (Wrong w) {
            return -1 - w.p;
        }
        stories.add(read);
        return stories.size() - 1;
    }

    private boolean story(int s) {
        return in(s, 0, stories.size() - 1);
    }

    private int faithOf(int s) {
        return faiths.getOrDefault(s, 1);
    }

    long faith(int s, int v) {
        if (!story(s) || !in(v, 0, 9)) {
            return NONE;
        }
        int was = faithOf(s);
        faiths.put(s, v);
        return was;
    }

    private int wovenBy(int s, int year) {
        return stories.get(s).containsKey('w') ? stories.get(s).get('w')[0] : year;
    }

    private int would(int s, int[] piece, int year) {
        Map<Character, int[]> story = stories.get(s);
        int v = at(wovenBy(s, year));
        if (story.containsKey('m') && piece[0] < 4 && piece[1] < 2) {
            v = at(story.get('m')[0]);
        }
        v = stuffed(v, piece[0], piece[1], piece[2]);
        if (story.containsKey('s')) {
            v = mixed(v, story.get('s')[0], story.get('s')[1]);
        }
        v += slips[piece[3]];
        if (story.containsKey('d')) {
            v += story.get('d')[1] * piece[0];
        }
        if (story.containsKey('h') && story.get('h')[0] == piece[3]) {
            v += story.get('h')[1];
        }
        return v;
    }

    long would(int s, int p, int year) {
        if (!story(s) || !piece(p) || !year(year)) {
            throw none();
        }
        return would(s, pieces.get(p), year);
    }

    long paper(int year, boolean seen, int trust) {
        if (!year(year) || !in(trust, 1, 9) || papers.size() == 4) {
            return NONE;
        }
        papers.add(new int[] {year, seen ? 1 : 0, trust});
        return papers.size() - 1;
    }

    private static int fit(int[] paper, int year) {
        if (paper[1] == 1) {
            return year <= paper[0] ? paper[2] : 10 - paper[2];
        }
        return year > paper[0] ? paper[2] : 10 - paper[2];
    }

    private BigInteger part(int s, List<Integer> some, int year, int leftOut) {
        BigInteger part = BigInteger.ONE;
        for (int p : some) {
            part = part.multiply(big(alike(counted.get(p), would(s, pieces.get(p), year), span(p))));
        }
        for (int i = 0; i < papers.size(); i++) {
            part = i == leftOut ? part : part.multiply(big(fit(papers.get(i), year)));
        }
        return part;
    }

    private List<BigInteger> storyWeights(List<Integer> some, int leftOut) {
        List<BigInteger> found = new ArrayList<>();
        for (int s = 0; s < stories.size(); s++) {
            BigInteger sum = ZERO;
            int n = 0;
            for (int y = 0; y < 200; y++) {
                if (wovenBy(s, y) == y) {
                    sum = sum.add(part(s, some, y, leftOut));
                    n++;
                }
            }
            found.add(sum.multiply(big(200 / n)).multiply(big(faithOf(s))));
        }
        return found;
    }

    long odds(int bits) {
        List<Integer> some = some(bits, 1, 4);
        if (some == null || stories.isEmpty()) {
            return NONE;
        }
        List<BigInteger> weights = storyWeights(some, -1);
        if (sum(weights).signum() == 0) {
            return -2;
        }
        row = new ArrayList<>();
        for (BigInteger weight : weights) {
            long[] share = fraction(weight, sum(weights));
            row.add(share[0]);
            row.add(share[1]);
        }
        return firstGreatest(weights);
    }

    long when(int s, int bits) {
        List<Integer> some = some(bits, 1, 4);
        if (some == null || !story(s)) {
            return NONE;
        }
        List<BigInteger> parts = new ArrayList<>();
        for (int y = 0; y < 200; y++) {
            parts.add(wovenBy(s, y) == y ? part(s, some, y, -1) : ZERO);
        }
        return sum(parts).signum() == 0 ? -2 : firstGreatest(parts);
    }

    long first(int bits) {
        List<Integer> some = some(bits, 1, 4);
        if (some == null || stories.isEmpty()) {
            return NONE;
        }
        List<BigInteger> with = storyWeights(some, -1);
        for (int i = 0; i < papers.size() && sum(with).signum() > 0; i++) {
            List<BigInteger> without = storyWeights(some, i);
            if (sum(without).signum() > 0 && firstGreatest(without) != firstGreatest(with)) {
                tell(firstGreatest(without));
                return i;
            }
        }
        return -2;
    }

    long needs(int s) {
        if (!story(s)) {
            return NONE;
        }
        long bits = 0;
        for (char letter : stories.get(s).keySet()) {
            bits |= 1L << "wsmdh".indexOf(letter);
        }
        tell(bits);
        return stories.get(s).size();
    }

    // ---- plans

    private List<int[]> pairs() {
        List<int[]> found = new ArrayList<>();
        for (int i = 0; i < stories.size(); i++) {
            for (int j = i + 1; j < stories.size(); j++) {
                found.add(new int[] {i, j});
            }
        }
        return found;
    }

    private List<int[]> notParted(List<int[]> pairs, int[] piece, int year) {
        List<int[]> found = new ArrayList<>();
        for (int[] pair : pairs) {
            int far = Math.abs(would(pair[0], piece, year) - would(pair[1], piece, year));
            if (far <= 2 * spans[piece[3]]) {
                found.add(pair);
            }
        }
        return found;
    }

    long parts(int p, int year) {
        if (!piece(p) || !year(year)) {
            return NONE;
        }
        List<int[]> left = notParted(pairs(), pieces.get(p), year);
        if (left.isEmpty()) {
            tell();
        } else {
            tell(left.get(0)[0], left.get(0)[1]);
        }
        return pairs().size() - left.size();
    }

    long next(int year) {
        if (!year(year) || stories.isEmpty()) {
            return NONE;
        }
        int best = -2;
        int most = -1;
        for (int p = 0; p < pieces.size(); p++) {
            int n = pairs().size() - notParted(pairs(), pieces.get(p), year).size();
            if (!counted.containsKey(p) && n > most) {
                best = p;
                most = n;
            }
        }
        if (best >= 0) {
            tell(most);
        }
        return best;
    }

    long fewest(int year) {
        if (!year(year)) {
            return NONE;
        }
        // Sets of as few are gone through from the least bits on.
        for (int size = 0; size <= pieces.size(); size++) {
            for (int bits = 0; bits < 1 << pieces.size(); bits++) {
                if (Integer.bitCount(bits) == size && partAll(bits, year)) {
                    tell(bits);
                    return size;
                }
            }
        }
        return -2;
    }

    private boolean partAll(int bits, int year) {
        List<int[]> left = pairs();
        for (int p = 0; p < pieces.size() && !left.isEmpty(); p++) {
            left = (bits >> p & 1) == 1 ? notParted(left, pieces.get(p), year) : left;
        }
        return left.isEmpty();
    }

    long where(int year) {
        if (!year(year) || stories.isEmpty()) {
            return NONE;
        }
        int most = -1;
        int[] best = null;
        for (int all = 0; all < 24 * 8 * 4 * 6; all++) {
            int[] piece = {all / 192, all / 24 % 8, all / 6 % 4, all % 6};
            int n = pairs().size() - notParted(pairs(), piece, year).size();
            if (n > most) {
                most = n;
                best = piece;
            }
        }
        tell(best[0], best[1], best[2], best[3]);
        return most;
    }

    // ---- hidden pieces, hows, who wanted it

    long like(int weave) {
        if (!in(weave, 0, 5) || likes.size() == 9) {
            return NONE;
        }
        likes.add(weave);
        return likes.size();
    }

    long knew(int weave, int k) {
        if (!in(weave, 0, 5) || !in(k, 0, likes.size())) {
            return NONE;
        }
        long sure = 0;
        long all = 0;
        for (int bits = 0; bits < 1 << likes.size(); bits++) {
            if (Integer.bitCount(bits) == k) {
                boolean isSure = true;
                for (int i = 0; i < likes.size(); i++) {
                    isSure &= (bits >> i & 1) == 0 || likes.get(i) != weave;
                }
                sure += isSure ? 1 : 0;
                all++;
            }
        }
        tell(fraction(big(sure), big(all)));
        return 0;
    }

    private static boolean marks(int some, int others) {
        return in(some, 0, 255) && in(others, 0, 255) && (some & others) == 0;
    }

    long how(int how, int needs, int bars) {
        if (!in(how, 0, 7) || !marks(needs, bars)) {
            return 0;
        }
        hows.put(how, new int[] {needs, bars});
        return 1;
    }

    private long openOnes(int are, int not) {
        long bits = 0;
        for (Map.Entry<Integer, int[]> how : hows.entrySet()) {
            boolean isOpen = true;
            for (int mark = 0; mark < 8; mark++) {
                int m = 1 << mark;
                isOpen &= (how.getValue()[0] & m) == 0 || (not & m) == 0;
                isOpen &= (how.getValue()[1] & m) == 0 || (are & m) == 0;
            }
            bits |= isOpen ? 1L << how.getKey() : 0;
        }
        return bits;
    }

    long open(int are, int not) {
        if (!marks(are, not)) {
            return NONE;
        }
        long known = 0;
        for (Map.Entry<Integer, int[]> how : hows.entrySet()) {
            boolean isKnown = (how.getValue()[0] & are) == how.getValue()[0]
                    && (how.getValue()[1] & not) == how.getValue()[1];
            known |= isKnown ? 1L << how.getKey() : 0;
        }
        tell(known);
        return openOnes(are, not);
    }

    long look(int are, int not) {
        if (!marks(are, not)) {
            return NONE;
        }
        int best = -2;
        long least = 99;
        for (int mark = 0; mark < 8; mark++) {
            int m = 1 << mark;
            if ((are & m) == 0 && (not & m) == 0) {
                long worst = Math.max(Long.bitCount(openOnes(are + m, not)), Long.bitCount(openOnes(are, not + m)));
                if (worst < least) {
                    best = mark;
                    least = worst;
                }
            }
        }
        if (best >= 0) {
            tell(least);
        }
        return best;
    }

    long wanted(int person, int s, int toldPapers, int toldPieces) {
        if (!in(person, 0, 7) || !story(s) || !in(toldPapers, 0, 15) || !in(toldPieces, 0, 4095)) {
            return 0;
        }
        wants.put(person, new int[] {s, toldPapers, toldPieces});
        return 1;
    }

    long omits(int person) {
        int[] want = wants.get(person);
        if (want == null) {
            return NONE;
        }
        int n = 0;
        long papersLeft = 0;
        long piecesLeft = 0;
        for (int i = 0; i < papers.size(); i++) {
            if ((want[1] >> i & 1) == 0 && fit(papers.get(i), wovenBy(want[0], woven)) < 5) {
                papersLeft += 1L << i;
                n++;
            }
        }
        for (int p : counted.keySet()) {
            int would = would(want[0], pieces.get(p), woven);
            if ((want[2] >> p & 1) == 0 && alike(counted.get(p), would, span(p)) < 32) {
                piecesLeft += 1L << p;
                n++;
            }
        }
        tell(papersLeft, piecesLeft);
        return n;
    }

    // ---- kept

    long seed(int v) {
        int was = r;
        r = v;
        return was;
    }

    long keep(int i) {
        if (!in(i, 0, 2)) {
            return 0;
        }
        kept.put(i, new Object[] {new TreeMap<>(counted), woven, new TreeMap<>(faiths), r});
        return 1;
    }

    @SuppressWarnings("unchecked")
    long again(int i) {
        if (!kept.containsKey(i)) {
            return 0;
        }
        Object[] then = kept.get(i);
        counted = new TreeMap<>((Map<Integer, Integer>) then[0]);
        woven = (Integer) then[1];
        faiths = new TreeMap<>((Map<Integer, Integer>) then[2]);
        r = (Integer) then[3];
        return 1;
    }

    long told(int what) {
        long bits = 0;
        for (int p : counted.keySet()) {
            bits += 1L << p;
        }
        long[] all = {
            points.size(), mends.size(), stuffs.size(), pieces.size(), bits, stories.size(), papers.size(),
            likes.size(), row.size(), text.length(), woven,
        };
        return in(what, 0, 10) ? all[what] : NONE;
    }

    long row(int i) {
        if (!in(i, 0, row.size() - 1)) {
            throw none();
        }
        return row.get(i);
    }
}
