import java.util.Arrays;

/**
 * Networks coloured round a circle. What each call answers stands in DOC.md, promise by promise;
 * words in capitals are its terms.
 *
 * All rows are made with the object and used again: no call makes an object.
 */
public final class CircleTints {
    public static final int NONE = -1, BAD = -2, STATE = -3, FULL = -4, MUCH = -5;
    public static final long NO = -4611686018427387904L;

    private static final int NOTHING_HELD = -11, OUTSIDE = -12, OTHER_SORT = -13, SIZE_BELOW_0 = -14, PARTED_BY_0 = -15;
    private static final int MOST_POINTS = 6, MOST_LINES = 10, MOST_NUMBERS = 40, MOST_BYTES = 120;
    private static final int PLACES = 40, PLACES_BY_LISTS = 16, PLACES_COUNTED = 8, MOST_Q = 6;
    private static final int KINDS = 5, MOST_FIGURE = 3, MOST_ROOM = 9, MOST_PART = 9999;
    private static final int HOLDS = 4, SHEETS = 4;
    private static final int INTS = 0, LONGS = 1, MISSING = -1;
    private static final long ALL_PLACES = (1L << PLACES) - 1;
    private static final long LEAST_LONG = -9223372036854775808L;

    private final Net net;
    private final Net kept;
    private final Net draft;
    private boolean imaged;
    private final RingBook book;
    private final Painter painter;
    private final TapeReader reader;
    private final Reckoner reckoner;
    private final Hold[] holds;
    private final Sheet[] sheets;

    public CircleTints() {
        net = new Net();
        kept = new Net();
        draft = new Net();
        book = new RingBook();
        painter = new Painter();
        reader = new TapeReader();
        reckoner = new Reckoner();
        holds = new Hold[HOLDS];
        for (int h = 0; h < HOLDS; h++) {
            holds[h] = new Hold();
        }
        sheets = new Sheet[SHEETS];
        for (int s = 0; s < SHEETS; s++) {
            sheets[s] = new Sheet();
        }
    }

    // ---- the net

    public int points(int n) {
        if (!within(n, 1, MOST_POINTS)) {
            return BAD;
        }
        if (n > MOST_POINTS - net.points) {
            return FULL;
        }
        net.addPoints(n);
        return net.points;
    }

    public int line(int kind, int figure, int a, int b) {
        if (!isKind(kind) || !isFigure(figure) || !net.hasPoint(a) || !net.hasPoint(b) || a == b) {
            return BAD;
        }
        if (net.areJoined(a, b)) {
            return STATE;
        }
        if (net.lines >= MOST_LINES) {
            return FULL;
        }
        book.forget();
        net.addLine(kind, figure, a, b);
        return net.lines - 1;
    }

    public int lineOf(int l, int what) {
        if (!net.hasLine(l)) {
            return BAD;
        }
        switch (what) {
            case 0: return net.kind[l];
            case 1: return net.figure[l];
            case 2: return net.gapOf(l);
            case 3: return net.low[l];
            case 4: return net.high[l];
            default: return BAD;
        }
    }

    public int change(int l, int what, int v) {
        if (!net.hasLine(l)) {
            return BAD;
        }
        int was = BAD;
        if (what == 0 && isKind(v)) {
            was = net.kind[l];
            net.kind[l] = v;
        } else if (what == 1 && isFigure(v)) {
            was = net.figure[l];
            net.figure[l] = v;
        }
        if (was != BAD) {
            book.forget();
        }
        return was;
    }

    public int drop(int l) {
        if (!net.hasLine(l)) {
            return BAD;
        }
        book.forget();
        net.removeLine(l);
        return net.lines;
    }

    public long list(int p, long places) {
        if (!net.hasPoint(p) || (places & ~ALL_PLACES) != 0) {
            return NO + BAD;
        }
        long was = net.lists[p];
        net.lists[p] = places;
        return was;
    }

    public int count(int what) {
        switch (what) {
            case 0: return net.points;
            case 1: return net.lines;
            case 2: return net.allGaps();
            case 3: return net.z;
            case 4: return reader.size;
            default: return BAD;
        }
    }

    // ---- colourings

    public int fits(int p, int q, int lists) {
        if (!areMeasures(p, q, lists)) {
            return BAD;
        }
        book.rateTurns(net);
        painter.prepare(net, p, q, lists);
        return painter.finds(net, book, false) ? 1 : 0;
    }

    public int place(int p, int q, int lists, int point) {
        if (!areMeasures(p, q, lists) || !net.hasPoint(point)) {
            return BAD;
        }
        return findFirst(p, q, lists) ? painter.first[point] : NONE;
    }

    public int ways(int p, int q, int lists) {
        if (!within(p, 1, PLACES_COUNTED) || !within(q, 1, MOST_Q) || !within(lists, 0, 1)) {
            return BAD;
        }
        painter.prepare(net, p, q, lists);
        return painter.countAll(net, lists);
    }

    public int ratio(int part) {
        if (!within(part, 0, 1)) {
            return BAD;
        }
        book.rateTurns(net);
        return part == 0 ? book.above : book.below;
    }

    public int whole() {
        return net.points == 0 ? NONE : leastWhole();
    }

    public int off(int part) {
        if (!within(part, 0, 1)) {
            return BAD;
        }
        if (net.lines == 0) {
            return NONE;
        }
        int whole = leastWhole();
        // RATIO is in lowest terms, so what is left of a whole number is so, too.
        return part == 0 ? whole * book.below - book.above : book.below;
    }

    // ---- rings, turns

    public int rings() {
        book.findRings(net);
        return book.size;
    }

    public int ring(int i, int what) {
        if (!within(what, 0, 2)) {
            return BAD;
        }
        book.findRings(net);
        if (i < 0 || i >= book.size) {
            return NONE;
        }
        if (what == 1) {
            return net.pointsOf(book.set[i]);
        }
        return what == 0 ? book.set[i] : book.length[i];
    }

    public int circled(int turn) {
        if (!net.areLines(turn)) {
            return BAD;
        }
        book.findRings(net);
        return book.worstRing(turn) == RingBook.CIRCLED ? 1 : 0;
    }

    public int rate(int turn, int part) {
        if (!net.areLines(turn) || !within(part, 0, 1)) {
            return BAD;
        }
        int r = ringOfRate(turn);
        if (r < 0) {
            return r;
        }
        int above = book.length[r];
        int below = book.along(r, turn);
        int common = (int) commonPart(above, below);
        if (common < 1) {
            return BAD;
        }
        return (part == 0 ? above : below) / common;
    }

    public int worst(int turn) {
        if (!net.areLines(turn)) {
            return BAD;
        }
        int r = ringOfRate(turn);
        return r < 0 ? r : book.set[r];
    }

    public int turns(int what) {
        if (!within(what, 0, 2)) {
            return BAD;
        }
        if (what > 0 && net.lines == 0) {
            return NONE;
        }
        book.rateTurns(net);
        if (what == 0) {
            return book.countOpen();
        }
        return what == 1 ? book.countBest() : book.leastBest();
    }

    public int binds() {
        book.rateTurns(net);
        int lines = 0;
        for (int l = 0; l < net.lines; l++) {
            if (book.isLessWithout(l)) {
                lines |= 1 << l;
            }
        }
        return lines;
    }

    public int room(int l) {
        if (!net.hasLine(l)) {
            return BAD;
        }
        book.rateTurns(net);
        return book.roomOf(l);
    }

    // ---- told colourings: numbers of a sheet are places of points 0, 1, ..

    public int judge(int s, int p, int q) {
        int refusal = refusalOf(s, p, q);
        return refusal < 0 ? refusal : firstWrong(sheets[s], p, q);
    }

    public int arcs(int s, int p, int q) {
        int refusal = refusalOfColouring(s, p, q);
        if (refusal < 0) {
            return refusal;
        }
        return Integer.bitCount(tightLines(sheets[s], p, q, true)) + Integer.bitCount(tightLines(sheets[s], p, q, false));
    }

    public int tight(int s, int p, int q, int what) {
        if (!within(what, 0, 1)) {
            return BAD;
        }
        int refusal = refusalOfColouring(s, p, q);
        if (refusal < 0) {
            return refusal;
        }
        book.findRings(net);
        int r = book.leastTight(tightLines(sheets[s], p, q, true), tightLines(sheets[s], p, q, false));
        if (r < 0) {
            return NONE;
        }
        return what == 0 ? book.set[r] : q * book.length[r] / p;
    }

    public int rounds(int s, int p, int q, int t) {
        if (!isSheet(t)) {
            return BAD;
        }
        int refusal = refusalOfColouring(s, p, q);
        if (refusal < 0) {
            return refusal;
        }
        Sheet to = sheets[t];
        // Each number is read before it is written, so that t may be s.
        for (int i = 0; i < net.points; i++) {
            to.numbers[i] = sheets[s].numbers[i] / q;
        }
        to.sort = INTS;
        to.size = net.points;
        return (p + q - 1) / q;
    }

    // ---- fractions that come next

    public int next(int p, int q, int n, int side, int part) {
        if (!within(p, 0, MOST_PART) || !within(q, 1, MOST_PART) || !within(n, 1, MOST_PART)) {
            return BAD;
        }
        if (!within(side, 0, 1) || !within(part, 0, 1)) {
            return BAD;
        }
        if (side == 0 && p == 0) {
            return NONE;
        }
        // Beside p of q, but nearer to it than any other fraction whose lower part is n or less.
        long times = n + 1L;
        long x = p * times + (side == 0 ? -1 : 1);
        return neighbour(x, q * times, n, side, part);
    }

    // ---- holds

    public int fraction(int h, long above, long below) {
        if (!isHold(h)) {
            return BAD;
        }
        if (below == 0) {
            return PARTED_BY_0;
        }
        return holds[h].takeFraction(above, below);
    }

    public int hold(int h, int what, int n) {
        if (!isHold(h) || !within(what, 0, 2)) {
            return BAD;
        }
        if (what == 2) {
            holds[h].thing = Hold.NOTHING;
            return 1;
        }
        if (what == 0) {
            if (!net.hasLine(n)) {
                return BAD;
            }
            holds[h].takeLine(net.kind[n], net.gapOf(n));
            return 1;
        }
        if (!isSheet(n)) {
            return BAD;
        }
        if (sheets[n].isMissing()) {
            return NOTHING_HELD;
        }
        holds[h].takeRow(sheets[n]);
        return 1;
    }

    public int does(int h, int what, int g) {
        if (!within(what, 0, 4)) {
            return BAD;
        }
        int refusal = refusalOfFractions(h, g);
        if (refusal < 0) {
            return refusal;
        }
        Hold x = holds[h];
        Hold y = holds[g];
        if (what == 3 && y.above == 0) {
            return PARTED_BY_0;
        }
        reckoner.much = false;
        long above = reckoner.aboveOf(x, what, y);
        long below = reckoner.belowOf(x, what, y);
        return reckoner.much ? MUCH : x.takeFraction(above, below);
    }

    public int compare(int h, int g) {
        int refusal = refusalOfFractions(h, g);
        return refusal < 0 ? refusal : 1 + order(holds[h], holds[g]);
    }

    public long told(int h, int what) {
        if (!isHold(h) || !within(what, 0, 6)) {
            return NO + BAD;
        }
        Hold x = holds[h];
        if (x.thing == Hold.NOTHING) {
            return NO + NOTHING_HELD;
        }
        if (x.thing != Hold.thingTold(what)) {
            return NO + OTHER_SORT;
        }
        switch (what) {
            case 0: return x.above;
            case 1: return x.below;
            case 2: return x.below < 1 ? 0 : x.above / x.below;
            case 3: return x.kind;
            case 4: return x.gap;
            case 5: return x.size;
            default: return x.sum;
        }
    }

    // ---- texts

    public int feed(int bytes, int n) {
        if (!within(n, 1, 4)) {
            return BAD;
        }
        if (n > MOST_BYTES - reader.size) {
            return FULL;
        }
        for (int i = n - 1; i >= 0; i--) {
            reader.append((bytes >> (8 * i)) & 255);
        }
        return reader.size;
    }

    public int wipe() {
        int had = reader.size;
        reader.size = 0;
        return had;
    }

    public int text() {
        // With a FAULT nothing may come of it, so the ITEMS are done on a draft.
        draft.become(net);
        int answer = reader.readAll(draft);
        reader.size = 0;
        if (answer >= 0) {
            book.forget();
            net.become(draft);
        }
        return answer;
    }

    // ---- draws

    public int seed(int v) {
        int was = net.z;
        net.z = v;
        return was;
    }

    public int deal(int n, int odds) {
        if (!within(n, 1, MOST_POINTS) || !within(odds, 0, 10)) {
            return BAD;
        }
        book.forget();
        net.points = 0;
        net.lines = 0;
        net.addPoints(n);
        for (int high = 1; high < n; high++) {
            for (int low = 0; low < high && net.lines < MOST_LINES; low++) {
                if (net.draw() % 10 < odds) {
                    int kind = net.draw() % KINDS;
                    net.addLine(kind, 1 + net.draw() % MOST_FIGURE, low, high);
                }
            }
        }
        return net.lines;
    }

    // ---- sheets, the image

    public int sheet(int s, int sort, int n) {
        if (!isSheet(s) || !within(sort, MISSING, LONGS)) {
            return BAD;
        }
        if (sort == MISSING) {
            sheets[s].sort = MISSING;
            return 1;
        }
        if (n > MOST_NUMBERS) {
            return BAD;
        }
        if (n < 0) {
            return SIZE_BELOW_0;
        }
        sheets[s].begin(sort, n);
        return 1;
    }

    public int write(int s, int i, long v) {
        if (!isSheet(s)) {
            return BAD;
        }
        Sheet row = sheets[s];
        if (row.isMissing()) {
            return NOTHING_HELD;
        }
        if (!row.hasNumber(i)) {
            return OUTSIDE;
        }
        if (row.sort == INTS && v != (int) v) {
            return MUCH;
        }
        row.numbers[i] = v;
        return 1;
    }

    public long item(int s, int i) {
        if (!isSheet(s)) {
            return NO + BAD;
        }
        if (sheets[s].isMissing()) {
            return NO + NOTHING_HELD;
        }
        return sheets[s].hasNumber(i) ? sheets[s].numbers[i] : NO + OUTSIDE;
    }

    public int copy(int s, int i, int t, int j, int n) {
        if (!isSheet(s) || !isSheet(t)) {
            return BAD;
        }
        Sheet from = sheets[s];
        Sheet to = sheets[t];
        if (from.isMissing() || to.isMissing()) {
            return NOTHING_HELD;
        }
        if (from.sort != to.sort) {
            return OTHER_SORT;
        }
        if (!from.hasStretch(i, n) || !to.hasStretch(j, n)) {
            return OUTSIDE;
        }
        System.arraycopy(from.numbers, i, to.numbers, j, n);
        return n;
    }

    public int paint(int s, int p, int q, int lists) {
        if (!isSheet(s) || !areMeasures(p, q, lists)) {
            return BAD;
        }
        if (!findFirst(p, q, lists)) {
            return NONE;
        }
        sheets[s].begin(INTS, net.points);
        for (int i = 0; i < net.points; i++) {
            sheets[s].numbers[i] = painter.first[i];
        }
        return net.points;
    }

    public int image() {
        kept.become(net);
        imaged = true;
        return net.lines;
    }

    public int back() {
        if (!imaged) {
            return STATE;
        }
        book.forget();
        net.become(kept);
        return net.lines;
    }

    // ---- what the calls share

    private static boolean within(int v, int least, int most) {
        return v >= least && v <= most;
    }

    private static boolean isKind(int kind) {
        return within(kind, 0, KINDS - 1);
    }

    private static boolean isFigure(int figure) {
        return within(figure, 1, MOST_FIGURE);
    }

    private static boolean isHold(int h) {
        return within(h, 0, HOLDS - 1);
    }

    private static boolean isSheet(int s) {
        return within(s, 0, SHEETS - 1);
    }

    private static boolean areMeasures(int p, int q, int lists) {
        return within(lists, 0, 1) && within(p, 1, lists == 1 ? PLACES_BY_LISTS : PLACES) && within(q, 1, MOST_Q);
    }

    /** Of numbers that aren't below 0 the greatest part of both; of such as aren't above 0 that, below 0. */
    private static long commonPart(long a, long b) {
        long x = a;
        long y = b;
        for (int step = 0; y != 0 && step < 200; step++) {
            long rest = x % y;
            x = y;
            y = rest;
        }
        return x;
    }

    private boolean findFirst(int p, int q, int lists) {
        book.rateTurns(net);
        painter.prepare(net, p, q, lists);
        return painter.finds(net, book, true);
    }

    /** Where there are LINES, there is a COLOURING by p, q just if p of q is RATIO or more. */
    private int leastWhole() {
        book.rateTurns(net);
        return book.below < 1 ? NONE : (book.above + book.below - 1) / book.below;
    }

    private int ringOfRate(int turn) {
        book.findRings(net);
        int r = book.worstRing(turn);
        if (r == RingBook.CIRCLED) {
            return STATE;
        }
        return r == RingBook.NO_RING ? NONE : r;
    }

    private int refusalOf(int s, int p, int q) {
        if (!isSheet(s) || !within(p, 1, PLACES) || !within(q, 1, MOST_Q)) {
            return BAD;
        }
        if (sheets[s].isMissing()) {
            return NOTHING_HELD;
        }
        return sheets[s].size < net.points ? OUTSIDE : 0;
    }

    private int refusalOfColouring(int s, int p, int q) {
        int refusal = refusalOf(s, p, q);
        if (refusal < 0) {
            return refusal;
        }
        return firstWrong(sheets[s], p, q) == NONE ? 0 : STATE;
    }

    private int firstWrong(Sheet row, int p, int q) {
        for (int b = 0; b < net.points; b++) {
            long at = row.numbers[b];
            if (at < 0 || at >= p) {
                return b;
            }
            for (int l = 0; l < net.lines; l++) {
                if (net.high[l] == b && !areApart(row.numbers[net.low[l]], at, p, q * net.gapOf(l))) {
                    return b;
                }
            }
        }
        return NONE;
    }

    private static boolean areApart(long a, long b, int p, int reach) {
        long apart = Math.abs(a - b);
        return apart >= reach && p - apart >= reach;
    }

    /** LINES that are TIGHT from the lesser to the greater POINT (upward) or the other way, in a COLOURING. */
    private int tightLines(Sheet row, int p, int q, boolean upward) {
        int lines = 0;
        for (int l = 0; l < net.lines && p > 0; l++) {
            long from = row.numbers[upward ? net.low[l] : net.high[l]];
            long to = row.numbers[upward ? net.high[l] : net.low[l]];
            if ((from + q * net.gapOf(l)) % p == to) {
                lines |= 1 << l;
            }
        }
        return lines;
    }

    private int refusalOfFractions(int h, int g) {
        if (!isHold(h) || !isHold(g)) {
            return BAD;
        }
        if (holds[h].thing == Hold.NOTHING || holds[g].thing == Hold.NOTHING) {
            return NOTHING_HELD;
        }
        return holds[h].thing == Hold.FRACTION && holds[g].thing == Hold.FRACTION ? 0 : OTHER_SORT;
    }

    /** Products may be too great, so whole parts are compared, then what is left the other way up. */
    private static int order(Hold x, Hold y) {
        long a = x.above;
        long b = x.below;
        long c = y.above;
        long d = y.below;
        int sign = 1;
        for (int step = 0; b > 0 && d > 0 && step < 200; step++) {
            long wholeOfX = Math.floorDiv(a, b);
            long wholeOfY = Math.floorDiv(c, d);
            if (wholeOfX != wholeOfY) {
                return wholeOfX < wholeOfY ? -sign : sign;
            }
            long restOfX = Math.floorMod(a, b);
            long restOfY = Math.floorMod(c, d);
            if (restOfX == 0 || restOfY == 0) {
                return sign * Long.compare(restOfX, restOfY);
            }
            a = b;
            b = restOfX;
            c = d;
            d = restOfY;
            sign = -sign;
        }
        return 0;
    }

    /**
     * Of the two fractions next to x of y whose lower parts are n or less, none of which is x of y itself:
     * a of b from below, c of d from above come nearer by turns, as far at once as they may.
     */
    private static int neighbour(long x, long y, int n, int side, int part) {
        long a = 0;
        long b = 1;
        long c = 1;
        long d = 0;
        boolean moved = true;
        for (int step = 0; moved && step < 64; step++) {
            long under = x * b - y * a;
            long over = y * c - x * d;
            long up = over < 1 ? 0 : (under - 1) / over;
            if (d > 0) {
                up = Math.min(up, (n - b) / d);
            }
            a += up * c;
            b += up * d;
            under = x * b - y * a;
            long down = under < 1 || b < 1 ? 0 : Math.min((over - 1) / under, (n - d) / b);
            c += down * a;
            d += down * b;
            moved = up > 0 || down > 0;
        }
        if (side == 0) {
            return (int) (part == 0 ? a : b);
        }
        return (int) (part == 0 ? c : d);
    }

    /** POINTS, LINES, LISTS and z: all that THE IMAGE keeps. */
    private static final class Net {
        int points;
        int lines;
        int z;
        final int[] kind;
        final int[] figure;
        final int[] low;
        final int[] high;
        final long[] lists;

        Net() {
            z = 1;
            kind = new int[MOST_LINES];
            figure = new int[MOST_LINES];
            low = new int[MOST_LINES];
            high = new int[MOST_LINES];
            lists = new long[MOST_POINTS];
        }

        boolean hasPoint(int p) {
            return p >= 0 && p < points;
        }

        boolean hasLine(int l) {
            return l >= 0 && l < lines;
        }

        boolean areLines(int set) {
            return (set & ~((1 << lines) - 1)) == 0;
        }

        boolean areJoined(int a, int b) {
            for (int l = 0; l < lines; l++) {
                if (low[l] == Math.min(a, b) && high[l] == Math.max(a, b)) {
                    return true;
                }
            }
            return false;
        }

        int gapOf(int l) {
            switch (kind[l]) {
                case 1: return figure[l] + 1;
                case 2: return Math.max(1, figure[l] - 1);
                case 3: return high[l] - low[l];
                case 4: return (low[l] + high[l]) % 2 == 0 ? 2 : figure[l];
                default: return figure[l];
            }
        }

        int allGaps() {
            int sum = 0;
            for (int l = 0; l < lines; l++) {
                sum += gapOf(l);
            }
            return sum;
        }

        int pointsOf(int set) {
            int found = 0;
            for (int l = 0; l < lines; l++) {
                if ((set >> l & 1) == 1) {
                    found |= 1 << low[l] | 1 << high[l];
                }
            }
            return found;
        }

        void addPoints(int n) {
            for (int i = 0; i < n && points < MOST_POINTS; i++) {
                lists[points] = ALL_PLACES;
                points++;
            }
        }

        void addLine(int itsKind, int itsFigure, int a, int b) {
            if (lines < MOST_LINES) {
                kind[lines] = itsKind;
                figure[lines] = itsFigure;
                low[lines] = Math.min(a, b);
                high[lines] = Math.max(a, b);
                lines++;
            }
        }

        void removeLine(int gone) {
            lines--;
            for (int l = gone; l < lines; l++) {
                kind[l] = kind[l + 1];
                figure[l] = figure[l + 1];
                low[l] = low[l + 1];
                high[l] = high[l + 1];
            }
        }

        void become(Net other) {
            points = other.points;
            lines = other.lines;
            z = other.z;
            System.arraycopy(other.kind, 0, kind, 0, MOST_LINES);
            System.arraycopy(other.figure, 0, figure, 0, MOST_LINES);
            System.arraycopy(other.low, 0, low, 0, MOST_LINES);
            System.arraycopy(other.high, 0, high, 0, MOST_LINES);
            System.arraycopy(other.lists, 0, lists, 0, MOST_POINTS);
        }

        int draw() {
            z = z * 1103515245 + 12345;
            return z >>> 16;
        }
    }

    /** RINGS of a net, for each TURN the least RING that gives its RATE, and RATIO; kept until the net changes. */
    private static final class RingBook {
        static final int CIRCLED = -1, NO_RING = -2;

        // Five POINTS with all their ten LINES have 47, and no other net has more.
        private static final int MOST_RINGS = 64;
        private static final int MOST_TURNS = 1 << MOST_LINES;

        int size;
        final int[] set;
        final int[] length;
        int above;
        int below;
        private boolean hasRings;
        private boolean hasRates;
        private int turnCount;
        private final int[] touching;
        private final int[] linesOf;
        private final int[] upward;
        private final int[] worstOf;

        RingBook() {
            set = new int[MOST_RINGS];
            length = new int[MOST_RINGS];
            touching = new int[MOST_POINTS];
            linesOf = new int[MOST_RINGS];
            upward = new int[MOST_RINGS];
            worstOf = new int[MOST_TURNS];
        }

        void forget() {
            hasRings = false;
            hasRates = false;
        }

        void findRings(Net net) {
            if (hasRings) {
                return;
            }
            hasRings = true;
            size = 0;
            turnCount = 1 << net.lines;
            Arrays.fill(touching, 0);
            for (int l = 0; l < net.lines; l++) {
                touching[net.low[l]] |= 1 << l;
                touching[net.high[l]] |= 1 << l;
            }
            for (int lines = 1; lines < turnCount; lines++) {
                int many = Integer.bitCount(lines);
                if (many == 1) {
                    addRing(net, lines, lines, 2);
                } else if (many > 2 && many <= net.points) {
                    int up = goRound(net, lines);
                    if (up >= 0) {
                        addRing(net, lines, up, 1);
                    }
                }
            }
        }

        /** Which of the LINES are gone from the lesser to the greater POINT as one goes round; below 0: no RING. */
        private int goRound(Net net, int lines) {
            int first = leastOf(lines);
            int at = net.high[first];
            int gone = 1 << first;
            int up = gone;
            for (int step = 0; step < MOST_POINTS && at != net.low[first]; step++) {
                int onward = lines & touching[at] & ~gone;
                if (Integer.bitCount(onward) != 1) {
                    return -1;
                }
                int l = leastOf(onward);
                gone |= onward;
                if (net.low[l] == at) {
                    up |= onward;
                    at = net.high[l];
                } else {
                    at = net.low[l];
                }
            }
            return gone == lines && at == net.low[first] ? up : -1;
        }

        private static int leastOf(int lines) {
            return Integer.bitCount((lines & -lines) - 1);
        }

        private void addRing(Net net, int lines, int up, int times) {
            if (size >= MOST_RINGS) {
                return;
            }
            int sum = 0;
            for (int l = 0; l < net.lines; l++) {
                if ((lines >> l & 1) == 1) {
                    sum += net.gapOf(l);
                }
            }
            set[size] = lines;
            upward[size] = up;
            linesOf[size] = Integer.bitCount(lines);
            length[size] = sum * times;
            size++;
        }

        /** How many LINES of a RING are gone along, whichever way they are fewer: 0 makes the TURN CIRCLED. */
        int along(int r, int turn) {
            if (linesOf[r] == 1) {
                return 1;
            }
            int oneWay = Integer.bitCount((upward[r] ^ turn) & set[r]);
            return Math.min(oneWay, linesOf[r] - oneWay);
        }

        /** The RINGS must have been found. */
        int worstRing(int turn) {
            int found = NO_RING;
            int mostAbove = 0;
            int mostBelow = 1;
            for (int r = 0; r < size; r++) {
                int gone = along(r, turn);
                if (gone == 0) {
                    return CIRCLED;
                }
                if (length[r] * mostBelow > mostAbove * gone) {
                    found = r;
                    mostAbove = length[r];
                    mostBelow = gone;
                }
            }
            return found;
        }

        void rateTurns(Net net) {
            findRings(net);
            if (hasRates) {
                return;
            }
            hasRates = true;
            above = 1;
            below = 1;
            boolean first = true;
            for (int turn = 0; turn < turnCount; turn++) {
                // All LINES the other way change no RATE.
                int mirrored = turnCount - 1 - turn;
                int r = mirrored < turn ? worstOf[mirrored] : worstRing(turn);
                worstOf[turn] = r;
                if (r >= 0 && (first || length[r] * below < above * along(r, turn))) {
                    first = false;
                    above = length[r];
                    below = along(r, turn);
                }
            }
            int common = (int) commonPart(above, below);
            if (common > 1) {
                above /= common;
                below /= common;
            }
        }

        /** Whether a TURN isn't CIRCLED and has p of q as its RATE, or less. The TURNS must have been rated. */
        boolean allows(int turn, int p, int q) {
            int r = worstOf[turn];
            return r == NO_RING || r >= 0 && length[r] * q <= p * along(r, turn);
        }

        int countOpen() {
            int found = 0;
            for (int turn = 0; turn < turnCount; turn++) {
                if (worstOf[turn] != CIRCLED) {
                    found++;
                }
            }
            return found;
        }

        int countBest() {
            int found = 0;
            for (int turn = 0; turn < turnCount; turn++) {
                if (allows(turn, above, below)) {
                    found++;
                }
            }
            return found;
        }

        int leastBest() {
            for (int turn = 0; turn < turnCount; turn++) {
                if (allows(turn, above, below)) {
                    return turn;
                }
            }
            return NONE;
        }

        /** Whether there is a TURN by which all RINGS without a LINE have RATES less than RATIO. */
        boolean isLessWithout(int l) {
            // Half of the TURNS is enough, as all LINES the other way change no RATE.
            for (int turn = 0; turn < turnCount / 2; turn++) {
                if ((turn >> l & 1) == 0 && isLessBy(turn, 1 << l)) {
                    return true;
                }
            }
            return false;
        }

        private boolean isLessBy(int turn, int without) {
            for (int r = 0; r < size; r++) {
                if ((set[r] & without) == 0 && length[r] * below >= above * along(r, turn)) {
                    return false;
                }
            }
            return true;
        }

        /** RATIO stays while one of the TURNS that have it as their RATE keeps that. */
        int roomOf(int l) {
            int most = 0;
            for (int turn = 0; turn < turnCount; turn++) {
                if (allows(turn, above, below)) {
                    most = Math.max(most, roomBy(turn, 1 << l));
                }
            }
            return most;
        }

        private int roomBy(int turn, int line) {
            int least = MOST_ROOM;
            for (int r = 0; r < size; r++) {
                if ((set[r] & line) != 0) {
                    int each = set[r] == line ? 2 * below : below;
                    int left = above * along(r, turn) - length[r] * below;
                    least = each < 1 ? 0 : Math.min(least, left / each);
                }
            }
            return least;
        }

        /** The least RING all of whose LINES are TIGHT as it is gone round; below 0: there is none. */
        int leastTight(int tightUp, int tightDown) {
            for (int r = 0; r < size; r++) {
                int up = upward[r];
                int down = set[r] & ~up;
                boolean oneWay = (up & ~tightUp) == 0 && (down & ~tightDown) == 0;
                boolean otherWay = (up & ~tightDown) == 0 && (down & ~tightUp) == 0;
                if (linesOf[r] == 1 ? oneWay && otherWay : oneWay || otherWay) {
                    return r;
                }
            }
            return NONE;
        }
    }

    /** COLOURINGS of a net: whether there is one, the FIRST, how many. */
    private static final class Painter {
        // Each pass but the last lifts a POINT by a place or more.
        private static final int MOST_PASSES = MOST_POINTS * PLACES + 1;

        final int[] first;
        private int p;
        private int q;
        private int leading;
        private final int[] trial;
        private final int[] reach;
        private final long[] free;

        Painter() {
            first = new int[MOST_POINTS];
            trial = new int[MOST_POINTS];
            reach = new int[MOST_LINES];
            free = new long[MOST_POINTS];
        }

        void prepare(Net net, int places, int forOne, int lists) {
            p = places;
            q = forOne;
            long below = (1L << p) - 1;
            for (int i = 0; i < net.points; i++) {
                free[i] = lists == 1 ? below & net.lists[i] : below;
            }
            leading = 0;
            for (int l = 0; l < net.lines; l++) {
                reach[l] = q * net.gapOf(l);
                leading |= 1 << net.low[l];
            }
        }

        /**
         * Every COLOURING lies by one TURN: its LINES point from the lesser place to the greater one. Of those by
         * one TURN there is one that has the least place for each POINT at once; the FIRST is the first of these.
         */
        boolean finds(Net net, RingBook book, boolean theFirst) {
            boolean found = false;
            int turnCount = 1 << net.lines;
            for (int turn = 0; turn < turnCount; turn++) {
                if (book.allows(turn, p, q) && settles(net, turn) && (!found || isTrialLess(net.points))) {
                    found = true;
                    System.arraycopy(trial, 0, first, 0, MOST_POINTS);
                    if (!theFirst) {
                        return true;
                    }
                }
            }
            return found;
        }

        /** Lifts each POINT as little as its LINES, turned so, ask. */
        private boolean settles(Net net, int turn) {
            for (int i = 0; i < net.points; i++) {
                if (!lifts(i, 0)) {
                    return false;
                }
            }
            boolean moved = true;
            for (int pass = 0; moved && pass < MOST_PASSES; pass++) {
                moved = false;
                for (int l = 0; l < net.lines; l++) {
                    boolean down = (turn >> l & 1) == 1;
                    int from = down ? net.high[l] : net.low[l];
                    int to = down ? net.low[l] : net.high[l];
                    int leastTo = trial[from] + reach[l];
                    if (trial[to] < leastTo) {
                        moved = true;
                        if (!lifts(to, leastTo)) {
                            return false;
                        }
                    }
                    int leastFrom = trial[to] - (p - reach[l]);
                    if (trial[from] < leastFrom) {
                        moved = true;
                        if (!lifts(from, leastFrom)) {
                            return false;
                        }
                    }
                }
            }
            return !moved;
        }

        private boolean lifts(int point, int least) {
            if (least >= p) {
                return false;
            }
            long left = free[point] & (-1L << least);
            trial[point] = left == 0 ? p : Long.bitCount((left & -left) - 1);
            return left != 0;
        }

        private boolean isTrialLess(int points) {
            for (int i = 0; i < points; i++) {
                if (trial[i] != first[i]) {
                    return trial[i] < first[i];
                }
            }
            return false;
        }

        int countAll(Net net, int lists) {
            if (lists == 1 || net.points == 0) {
                return countFrom(this, net, 0);
            }
            // Without LISTS a COLOURING can be turned round the circle, so POINT 0 has each place as often.
            free[0] = 1;
            return p * countFrom(this, net, 0);
        }

        private static int countFrom(Painter me, Net net, int point) {
            if (point >= net.points || point >= MOST_POINTS) {
                return 1;
            }
            long open = me.openTo(net, point);
            if (open == 0) {
                return 0;
            }
            // A POINT without a LINE to a greater one binds none of these.
            if ((me.leading >> point & 1) == 0) {
                return Long.bitCount(open) * countFrom(me, net, point + 1);
            }
            int sum = 0;
            for (int at = 0; at < me.p; at++) {
                if ((open >> at & 1) == 1) {
                    me.trial[point] = at;
                    sum += countFrom(me, net, point + 1);
                }
            }
            return sum;
        }

        private long openTo(Net net, int point) {
            long open = free[point];
            for (int l = 0; l < net.lines; l++) {
                if (net.high[l] == point) {
                    open &= apartFrom(trial[net.low[l]], reach[l]);
                }
            }
            return open;
        }

        private long apartFrom(int at, int far) {
            if (2 * far > p) {
                return 0;
            }
            long fromZero = ((1L << (p - 2 * far + 1)) - 1) << far;
            return (fromZero << at) | (fromZero >>> (p - at));
        }
    }

    /** A row of ints or longs, or one that is missing. */
    private static final class Sheet {
        int sort;
        int size;
        final long[] numbers;

        Sheet() {
            sort = MISSING;
            numbers = new long[MOST_NUMBERS];
        }

        boolean isMissing() {
            return sort == MISSING;
        }

        boolean hasNumber(int i) {
            return i >= 0 && i < size;
        }

        boolean hasStretch(int i, int n) {
            return i >= 0 && n >= 0 && i <= size - n;
        }

        void begin(int itsSort, int n) {
            sort = itsSort;
            size = n;
            Arrays.fill(numbers, 0);
        }
    }

    /** Of a LINE and a ROW a HOLD keeps no more than can be told. */
    private static final class Hold {
        static final int NOTHING = 0, FRACTION = 1, LINE = 2, ROW = 3;

        int thing;
        long above;
        long below;
        int kind;
        int gap;
        int size;
        long sum;

        static int thingTold(int what) {
            if (what < 3) {
                return FRACTION;
            }
            return what < 5 ? LINE : ROW;
        }

        void takeLine(int itsKind, int itsGap) {
            thing = LINE;
            kind = itsKind;
            gap = itsGap;
        }

        void takeRow(Sheet row) {
            thing = ROW;
            size = row.size;
            sum = 0;
            for (int i = 0; i < row.size; i++) {
                sum += row.numbers[i];
            }
        }

        /** Goes by numbers that aren't above 0, of which there is one more. */
        int takeFraction(long a, long b) {
            long sizeOfA = a > 0 ? -a : a;
            long sizeOfB = b > 0 ? -b : b;
            long common = commonPart(sizeOfA, sizeOfB);
            if (common < -1) {
                sizeOfA = -(sizeOfA / common);
                sizeOfB = -(sizeOfB / common);
            }
            boolean isNegative = (a < 0) != (b < 0);
            if (sizeOfB == LEAST_LONG || !isNegative && sizeOfA == LEAST_LONG) {
                return MUCH;
            }
            thing = FRACTION;
            above = isNegative ? sizeOfA : -sizeOfA;
            below = -sizeOfB;
            return 1;
        }
    }

    /** Sums and products that remember whether one of them was none of 64 bits. */
    private static final class Reckoner {
        boolean much;

        long aboveOf(Hold x, int what, Hold y) {
            switch (what) {
                case 0: return plus(times(x.above, y.below), times(y.above, x.below));
                case 1: return less(times(x.above, y.below), times(y.above, x.below));
                case 2: return times(x.above, y.above);
                case 3: return times(x.above, y.below);
                default: return plus(x.above, y.above);
            }
        }

        long belowOf(Hold x, int what, Hold y) {
            switch (what) {
                case 3: return times(x.below, y.above);
                case 4: return plus(x.below, y.below);
                default: return times(x.below, y.below);
            }
        }

        private long plus(long a, long b) {
            long sum = a + b;
            much |= ((a ^ sum) & (b ^ sum)) < 0;
            return sum;
        }

        private long less(long a, long b) {
            long rest = a - b;
            much |= ((a ^ b) & (a ^ rest)) < 0;
            return rest;
        }

        private long times(long a, long b) {
            long product = a * b;
            // The one product by -1 that wraps comes back to itself when it is parted.
            much |= b == -1 ? a == LEAST_LONG : b != 0 && product / b != a;
            return product;
        }
    }

    /** THE TAPE, and the reading of a TEXT from it, TOKEN by TOKEN. */
    private static final class TapeReader {
        private static final int END = 0, WORD = 1, NUMBER = 2, SIGN = 3, OTHER = 4;
        private static final int FAULTY = -1, FAULT_BASE = -100, MOST_VALUE = 999;

        int size;
        private final int[] tape;
        private int sort;
        private int start;
        private int at;
        private int value;

        TapeReader() {
            tape = new int[MOST_BYTES];
        }

        void append(int b) {
            if (size < MOST_BYTES) {
                tape[size] = b;
                size++;
            }
        }

        /** How many ITEMS; with a FAULT -100 less its place: that of the TOKEN read last. */
        int readAll(Net net) {
            at = 0;
            int items = 0;
            boolean more = true;
            for (int guard = 0; more && guard <= MOST_BYTES; guard++) {
                readToken();
                if (!readsItem(net)) {
                    return FAULT_BASE - start;
                }
                items++;
                readToken();
                more = sort == SIGN;
            }
            return sort == END ? items : FAULT_BASE - start;
        }

        private boolean readsItem(Net net) {
            if (isWord("points")) {
                return readsPoints(net);
            }
            if (isWord("line")) {
                return net.lines < MOST_LINES && readsLine(net);
            }
            if (isWord("round")) {
                return readsRound(net);
            }
            return isWord("list") && readsList(net);
        }

        private boolean readsPoints(Net net) {
            int n = readNumber(1, MOST_POINTS - net.points);
            if (n == FAULTY) {
                return false;
            }
            net.addPoints(n);
            return true;
        }

        private boolean readsLine(Net net) {
            int kind = readKind();
            int figure = kind == FAULTY ? FAULTY : readNumber(1, MOST_FIGURE);
            int a = figure == FAULTY ? FAULTY : readNumber(0, net.points - 1);
            int b = a == FAULTY ? FAULTY : readNumber(0, net.points - 1);
            if (b == FAULTY || a == b || net.areJoined(a, b)) {
                return false;
            }
            net.addLine(kind, figure, a, b);
            return true;
        }

        private boolean readsRound(Net net) {
            int kind = readKind();
            int figure = kind == FAULTY ? FAULTY : readNumber(1, MOST_FIGURE);
            int a = figure == FAULTY ? FAULTY : readNumber(0, net.points - 1);
            int b = a == FAULTY ? FAULTY : readNumber(a + 1, net.points - 1);
            if (b == FAULTY) {
                return false;
            }
            for (int i = a; i < b; i++) {
                joinUnlessJoined(net, kind, figure, i, i + 1);
            }
            joinUnlessJoined(net, kind, figure, a, b);
            return true;
        }

        private static void joinUnlessJoined(Net net, int kind, int figure, int a, int b) {
            if (!net.areJoined(a, b)) {
                net.addLine(kind, figure, a, b);
            }
        }

        private boolean readsList(Net net) {
            int point = readNumber(0, net.points - 1);
            int from = point == FAULTY ? FAULTY : readNumber(0, PLACES - 1);
            int to = from == FAULTY ? FAULTY : readNumber(from, PLACES - 1);
            if (to == FAULTY) {
                return false;
            }
            net.lists[point] = ((1L << (to - from + 1)) - 1) << from;
            return true;
        }

        private int readNumber(int least, int most) {
            readToken();
            return sort == NUMBER && value >= least && value <= most ? value : FAULTY;
        }

        private int readKind() {
            readToken();
            if (isWord("plain")) {
                return 0;
            }
            if (isWord("wide")) {
                return 1;
            }
            if (isWord("thin")) {
                return 2;
            }
            if (isWord("span")) {
                return 3;
            }
            return isWord("even") ? 4 : FAULTY;
        }

        private void readToken() {
            start = passOver(at, ' ', ' ');
            int behindWord = passOver(start, 'a', 'z');
            int behindNumber = passOver(start, '0', '9');
            if (start >= size) {
                sort = END;
                at = start;
            } else if (behindWord > start) {
                sort = WORD;
                at = behindWord;
            } else if (behindNumber > start) {
                sort = NUMBER;
                at = behindNumber;
                value = valueOf(start, behindNumber);
            } else {
                sort = tape[start] == ';' ? SIGN : OTHER;
                at = start + 1;
            }
        }

        /** The first place, from one on, whose byte isn't one of these. */
        private int passOver(int from, int least, int most) {
            int i = from;
            while (i < size && tape[i] >= least && tape[i] <= most) {
                i++;
            }
            return i;
        }

        private int valueOf(int from, int behind) {
            int sum = 0;
            for (int i = from; i < behind; i++) {
                // Once it is too great it stays so, and it must not wrap.
                if (sum <= MOST_VALUE) {
                    sum = sum * 10 + tape[i] - '0';
                }
            }
            return sum;
        }

        private boolean isWord(String word) {
            if (sort != WORD || at - start != word.length()) {
                return false;
            }
            for (int i = 0; i < word.length(); i++) {
                if (tape[start + i] != word.charAt(i)) {
                    return false;
                }
            }
            return true;
        }
    }
}
