import java.math.BigInteger;
import java.util.ArrayList;
import java.util.Arrays;
import java.util.List;

/** The document's words once more, by trying everything: what CircleTints answers is held against this. */
public final class NaiveTints {
    static final int NONE = -1, BAD = -2, STATE = -3, FULL = -4, MUCH = -5;
    static final long NO = -4611686018427387904L;
    static final long ALL = (1L << 40) - 1;

    record Line(int kind, int figure, int lo, int hi) {
        int gap() {
            return switch (kind) {
                case 0 -> figure;
                case 1 -> figure + 1;
                case 2 -> figure == 1 ? 1 : figure - 1;
                case 3 -> hi - lo;
                default -> (hi + lo) % 2 == 0 ? 2 : figure;
            };
        }
    }

    record Ratio(long above, long below) {
        static Ratio of(long a, long b) {
            long g = BigInteger.valueOf(a).gcd(BigInteger.valueOf(b)).longValueExact();
            return new Ratio(a / g, b / g);
        }

        int against(Ratio o) {
            return Long.compare(above * o.below, o.above * below);
        }
    }

    /** points in the order in which one goes round; lines[i] joins points[i] and the next one. */
    record Ring(int set, int[] points, int[] lines) { }

    record Frac(BigInteger above, BigInteger below) { }

    record Row(int sort, long[] numbers) { }

    static final class State implements Cloneable {
        List<Long> lists = new ArrayList<>();
        List<Line> lines = new ArrayList<>();
        int z = 1;

        State twin() {
            State t = new State();
            t.lists.addAll(lists);
            t.lines.addAll(lines);
            t.z = z;
            return t;
        }

        boolean joined(int a, int b) {
            return lines.stream().anyMatch(l -> l.lo == Math.min(a, b) && l.hi == Math.max(a, b));
        }

        void join(int kind, int figure, int a, int b) {
            lines.add(new Line(kind, figure, Math.min(a, b), Math.max(a, b)));
        }

        int draw() {
            z = z * 1103515245 + 12345;
            return z >>> 16;
        }
    }

    private State st = new State();
    private State img;
    private final Object[] holds = new Object[4];
    private final Row[] sheets = new Row[4];
    private final StringBuilder tape = new StringBuilder();

    private int np() {
        return st.lists.size();
    }

    private int nl() {
        return st.lines.size();
    }

    private static boolean in(long v, long lo, long hi) {
        return lo <= v && v <= hi;
    }

    public int points(int n) {
        if (!in(n, 1, 6)) return BAD;
        if (np() + n > 6) return FULL;
        for (int i = 0; i < n; i++) st.lists.add(ALL);
        return np();
    }

    public int line(int kind, int figure, int a, int b) {
        if (!in(kind, 0, 4) || !in(figure, 1, 3) || !in(a, 0, np() - 1) || !in(b, 0, np() - 1) || a == b) return BAD;
        if (st.joined(a, b)) return STATE;
        if (nl() == 10) return FULL;
        st.join(kind, figure, a, b);
        return nl() - 1;
    }

    public int lineOf(int l, int what) {
        if (!in(l, 0, nl() - 1) || !in(what, 0, 4)) return BAD;
        Line x = st.lines.get(l);
        return new int[] {x.kind, x.figure, x.gap(), x.lo, x.hi}[what];
    }

    public int change(int l, int what, int v) {
        if (!in(l, 0, nl() - 1) || !in(what, 0, 1) || !in(v, what, what == 0 ? 4 : 3)) return BAD;
        Line x = st.lines.get(l);
        st.lines.set(l, what == 0 ? new Line(v, x.figure, x.lo, x.hi) : new Line(x.kind, v, x.lo, x.hi));
        return what == 0 ? x.kind : x.figure;
    }

    public int drop(int l) {
        if (!in(l, 0, nl() - 1)) return BAD;
        st.lines.remove(l);
        return nl();
    }

    public long list(int p, long places) {
        if (!in(p, 0, np() - 1) || !in(places, 0, ALL)) return NO + BAD;
        return st.lists.set(p, places);
    }

    public int count(int what) {
        if (!in(what, 0, 4)) return BAD;
        return new int[] {np(), nl(), st.lines.stream().mapToInt(Line::gap).sum(), st.z, tape.length()}[what];
    }

    private static boolean apart(long x, long y, int p, int far) {
        return Math.floorMod(x - y, p) >= far && Math.floorMod(y - x, p) >= far;
    }

    /** Tries places in their order, POINT by POINT, keeping what is still open to each later POINT. */
    private boolean fill(int point, long[] open, int p, int q, int[] row) {
        if (point == np()) return true;
        for (int at = 0; at < p; at++) {
            if ((open[point] >> at & 1) == 0) continue;
            row[point] = at;
            long[] then = open.clone();
            boolean dead = false;
            for (Line l : st.lines) {
                if (l.lo != point) continue;
                for (int c = 0; c < p; c++) if (!apart(at, c, p, q * l.gap())) then[l.hi] &= ~(1L << c);
                dead |= then[l.hi] == 0;
            }
            if (!dead && fill(point + 1, then, p, q, row)) return true;
        }
        return false;
    }

    private int[] firstColouring(int p, int q, int lists) {
        long[] open = new long[np()];
        for (int i = 0; i < np(); i++) {
            open[i] = (lists == 1 ? st.lists.get(i) : ALL) & (1L << p) - 1;
            if (open[i] == 0) return null;
        }
        int[] row = new int[np()];
        return fill(0, open, p, q, row) ? row : null;
    }

    private static boolean measures(int p, int q, int lists) {
        return in(lists, 0, 1) && in(p, 1, lists == 1 ? 16 : 40) && in(q, 1, 6);
    }

    public int fits(int p, int q, int lists) {
        if (!measures(p, q, lists)) return BAD;
        return firstColouring(p, q, lists) == null ? 0 : 1;
    }

    public int place(int p, int q, int lists, int point) {
        if (!measures(p, q, lists) || !in(point, 0, np() - 1)) return BAD;
        int[] row = firstColouring(p, q, lists);
        return row == null ? NONE : row[point];
    }

    public int ways(int p, int q, int lists) {
        if (!in(p, 1, 8) || !in(q, 1, 6) || !in(lists, 0, 1)) return BAD;
        return tally(0, new int[np()], p, q, lists);
    }

    private int tally(int point, int[] row, int p, int q, int lists) {
        if (point == np()) return 1;
        int sum = 0;
        for (int at = 0; at < p; at++) {
            if (lists == 1 && (st.lists.get(point) >> at & 1) == 0) continue;
            row[point] = at;
            boolean good = true;
            for (Line l : st.lines) if (l.hi == point) good &= apart(row[l.lo], at, p, q * l.gap());
            if (good) sum += tally(point + 1, row, p, q, lists);
        }
        return sum;
    }

    // ---- rings and turns of any row of lines with any gaps

    private static List<Ring> ringsOf(List<Line> lines) {
        List<Ring> found = new ArrayList<>();
        for (int set = 1; set < 1 << lines.size(); set++) {
            Ring r = ringOf(lines, set);
            if (r != null) found.add(r);
        }
        return found;
    }

    private static Ring ringOf(List<Line> lines, int set) {
        int[] degree = new int[6];
        List<Integer> mine = new ArrayList<>();
        for (int l = 0; l < lines.size(); l++) {
            if ((set >> l & 1) == 0) continue;
            mine.add(l);
            degree[lines.get(l).lo]++;
            degree[lines.get(l).hi]++;
        }
        Line start = lines.get(mine.get(0));
        if (mine.size() == 1) {
            return new Ring(set, new int[] {start.lo, start.hi}, new int[] {mine.get(0), mine.get(0)});
        }
        if (mine.size() < 3) return null;
        for (int d : degree) if (d != 0 && d != 2) return null;
        int[] points = new int[mine.size()];
        int[] order = new int[mine.size()];
        int at = start.hi;
        for (int i = mine.size() - 1; i >= 0; i--) {
            int here = at;
            Integer via = mine.stream().filter(l -> lines.get(l).lo == here || lines.get(l).hi == here)
                .max(Integer::compare).orElse(null);
            if (via == null) return null;
            mine.remove(via);
            points[i] = lines.get(via).lo == at ? lines.get(via).hi : lines.get(via).lo;
            order[i] = via;
            at = points[i];
        }
        return at == start.hi ? new Ring(set, points, order) : null;
    }

    private static int lengthOf(Ring r, int[] gaps) {
        int sum = 0;
        for (int l : r.lines) sum += gaps[l];
        return sum;
    }

    private static boolean pointsFrom(Line l, int turn, int index, int from) {
        return ((turn >> index & 1) == 1 ? l.hi : l.lo) == from;
    }

    private static int along(List<Line> lines, Ring r, int turn) {
        int n = 0;
        for (int i = 0; i < r.points.length; i++) {
            if (pointsFrom(lines.get(r.lines[i]), turn, r.lines[i], r.points[i])) n++;
        }
        return n;
    }

    /** Takes away POINTS at which no LINE ends: what can't be taken away goes round. */
    private static boolean isCircled(List<Line> lines, int turn) {
        boolean[] gone = new boolean[6];
        for (int again = 0; again < 6; again++) {
            for (int p = 0; p < 6; p++) {
                boolean entered = false;
                for (int l = 0; l < lines.size(); l++) {
                    int from = (turn >> l & 1) == 1 ? lines.get(l).hi : lines.get(l).lo;
                    int to = (turn >> l & 1) == 1 ? lines.get(l).lo : lines.get(l).hi;
                    entered |= to == p && !gone[from];
                }
                gone[p] |= !entered;
            }
        }
        for (boolean g : gone) if (!g) return true;
        return false;
    }

    private static Ratio rateOf(List<Line> lines, Ring r, int[] gaps, int turn) {
        int n = along(lines, r, turn);
        return Ratio.of(lengthOf(r, gaps), Math.min(n, r.points.length - n));
    }

    private static Ratio rateOf(List<Line> lines, List<Ring> rings, int[] gaps, int turn) {
        Ratio most = null;
        for (Ring r : rings) {
            Ratio x = rateOf(lines, r, gaps, turn);
            if (most == null || x.against(most) > 0) most = x;
        }
        return most;
    }

    private static Ratio ratioOf(List<Line> lines, int[] gaps) {
        if (lines.isEmpty()) return new Ratio(1, 1);
        List<Ring> rings = ringsOf(lines);
        Ratio least = null;
        for (int turn = 0; turn < 1 << lines.size(); turn++) {
            if (isCircled(lines, turn)) continue;
            Ratio x = rateOf(lines, rings, gaps, turn);
            if (least == null || x.against(least) < 0) least = x;
        }
        return least;
    }

    private static int[] gapsOf(List<Line> lines) {
        return lines.stream().mapToInt(Line::gap).toArray();
    }

    private Ratio ratioNow() {
        return ratioOf(st.lines, gapsOf(st.lines));
    }

    public int ratio(int part) {
        if (!in(part, 0, 1)) return BAD;
        Ratio r = ratioNow();
        return (int) (part == 0 ? r.above : r.below);
    }

    public int whole() {
        if (np() == 0) return NONE;
        for (int p = 1; p <= 62; p++) {
            long[] open = new long[np()];
            Arrays.fill(open, (1L << p) - 1);
            // a colouring can be turned round until POINT 0 has place 0
            open[0] = 1;
            if (fill(0, open, p, 1, new int[np()])) return p;
        }
        throw new IllegalStateException();
    }

    public int off(int part) {
        if (!in(part, 0, 1)) return BAD;
        if (nl() == 0) return NONE;
        Ratio r = ratioNow();
        Ratio o = Ratio.of(whole() * r.below - r.above, r.below);
        return (int) (part == 0 ? o.above : o.below);
    }

    public int rings() {
        return ringsOf(st.lines).size();
    }

    public int ring(int i, int what) {
        if (!in(what, 0, 2)) return BAD;
        List<Ring> rings = ringsOf(st.lines);
        if (!in(i, 0, rings.size() - 1)) return NONE;
        Ring r = rings.get(i);
        if (what == 0) return r.set;
        if (what == 2) return lengthOf(r, gapsOf(st.lines));
        return Arrays.stream(r.points).map(p -> 1 << p).reduce(0, (a, b) -> a | b);
    }

    private boolean isTurn(int turn) {
        return turn >= 0 && turn < 1 << nl();
    }

    public int circled(int turn) {
        if (!isTurn(turn)) return BAD;
        return isCircled(st.lines, turn) ? 1 : 0;
    }

    public int rate(int turn, int part) {
        if (!isTurn(turn) || !in(part, 0, 1)) return BAD;
        if (isCircled(st.lines, turn)) return STATE;
        if (nl() == 0) return NONE;
        Ratio r = rateOf(st.lines, ringsOf(st.lines), gapsOf(st.lines), turn);
        return (int) (part == 0 ? r.above : r.below);
    }

    public int worst(int turn) {
        if (!isTurn(turn)) return BAD;
        if (isCircled(st.lines, turn)) return STATE;
        if (nl() == 0) return NONE;
        int[] gaps = gapsOf(st.lines);
        List<Ring> rings = ringsOf(st.lines);
        Ratio most = rateOf(st.lines, rings, gaps, turn);
        for (Ring r : rings) if (rateOf(st.lines, r, gaps, turn).equals(most)) return r.set;
        throw new IllegalStateException();
    }

    public int turns(int what) {
        if (!in(what, 0, 2)) return BAD;
        if (what > 0 && nl() == 0) return NONE;
        Ratio ratio = ratioNow();
        List<Ring> rings = ringsOf(st.lines);
        int[] gaps = gapsOf(st.lines);
        int n = 0;
        for (int turn = 0; turn < 1 << nl(); turn++) {
            if (isCircled(st.lines, turn)) continue;
            if (what == 0) {
                n++;
            } else if (rateOf(st.lines, rings, gaps, turn).equals(ratio)) {
                if (what == 2) return turn;
                n++;
            }
        }
        return n;
    }

    public int binds() {
        Ratio ratio = ratioNow();
        int set = 0;
        for (int l = 0; l < nl(); l++) {
            List<Line> fewer = new ArrayList<>(st.lines);
            fewer.remove(l);
            if (ratioOf(fewer, gapsOf(fewer)).against(ratio) < 0) set |= 1 << l;
        }
        return set;
    }

    public int room(int l) {
        if (!in(l, 0, nl() - 1)) return BAD;
        Ratio ratio = ratioNow();
        int most = 0;
        for (int more = 1; more <= 9; more++) {
            int[] gaps = gapsOf(st.lines);
            gaps[l] += more;
            if (ratioOf(st.lines, gaps).equals(ratio)) most = more;
        }
        return most;
    }

    // ---- told colourings

    private int refuse(int s, int p, int q) {
        if (!in(s, 0, 3) || !in(p, 1, 40) || !in(q, 1, 6)) return BAD;
        if (sheets[s] == null) return -11;
        return sheets[s].numbers.length < np() ? -12 : 0;
    }

    public int judge(int s, int p, int q) {
        int no = refuse(s, p, q);
        if (no < 0) return no;
        long[] at = sheets[s].numbers;
        for (int b = 0; b < np(); b++) {
            if (!in(at[b], 0, p - 1)) return b;
            for (Line l : st.lines) if (l.hi == b && !apart(at[l.lo], at[b], p, q * l.gap())) return b;
        }
        return NONE;
    }

    private int refuseNoColouring(int s, int p, int q) {
        int no = refuse(s, p, q);
        if (no < 0) return no;
        return judge(s, p, q) == NONE ? 0 : STATE;
    }

    private boolean isTight(Line l, int from, int s, int p, int q) {
        long[] at = sheets[s].numbers;
        int to = l.lo + l.hi - from;
        return at[to] == (at[from] + (long) q * l.gap()) % p;
    }

    public int arcs(int s, int p, int q) {
        int no = refuseNoColouring(s, p, q);
        if (no < 0) return no;
        int n = 0;
        for (Line l : st.lines) {
            if (isTight(l, l.lo, s, p, q)) n++;
            if (isTight(l, l.hi, s, p, q)) n++;
        }
        return n;
    }

    public int tight(int s, int p, int q, int what) {
        if (!in(what, 0, 1)) return BAD;
        int no = refuseNoColouring(s, p, q);
        if (no < 0) return no;
        for (Ring r : ringsOf(st.lines)) {
            boolean one = true;
            boolean other = true;
            for (int i = 0; i < r.points.length; i++) {
                Line l = st.lines.get(r.lines[i]);
                one &= isTight(l, r.points[i], s, p, q);
                other &= isTight(l, l.lo + l.hi - r.points[i], s, p, q);
            }
            if (one || other) return what == 0 ? r.set : q * lengthOf(r, gapsOf(st.lines)) / p;
        }
        return NONE;
    }

    public int rounds(int s, int p, int q, int t) {
        if (!in(t, 0, 3)) return BAD;
        int no = refuseNoColouring(s, p, q);
        if (no < 0) return no;
        long[] row = new long[np()];
        for (int i = 0; i < np(); i++) row[i] = sheets[s].numbers[i] / q;
        sheets[t] = new Row(0, row);
        return p % q == 0 ? p / q : p / q + 1;
    }

    public int next(int p, int q, int n, int side, int part) {
        if (!in(p, 0, 9999) || !in(q, 1, 9999) || !in(n, 1, 9999) || !in(side, 0, 1) || !in(part, 0, 1)) return BAD;
        if (side == 0 && p == 0) return NONE;
        Ratio best = null;
        for (int b = 1; b <= n; b++) {
            long a = side == 0 ? ((long) p * b - 1) / q : (long) p * b / q + 1;
            Ratio x = new Ratio(a, b);
            if (best == null || (side == 0 ? x.against(best) > 0 : x.against(best) < 0)) best = x;
        }
        best = Ratio.of(best.above, best.below);
        return (int) (part == 0 ? best.above : best.below);
    }

    // ---- holds

    private static boolean is64(BigInteger x) {
        return x.bitLength() <= 63;
    }

    private int take(int h, BigInteger a, BigInteger b) {
        BigInteger g = a.gcd(b);
        if (b.signum() < 0) g = g.negate();
        a = a.divide(g);
        b = b.divide(g);
        if (!is64(a) || !is64(b)) return MUCH;
        holds[h] = new Frac(a, b);
        return 1;
    }

    public int fraction(int h, long above, long below) {
        if (!in(h, 0, 3)) return BAD;
        if (below == 0) return -15;
        return take(h, BigInteger.valueOf(above), BigInteger.valueOf(below));
    }

    public int hold(int h, int what, int n) {
        if (!in(h, 0, 3) || !in(what, 0, 2)) return BAD;
        if (what == 0 && !in(n, 0, nl() - 1) || what == 1 && !in(n, 0, 3)) return BAD;
        if (what == 1 && sheets[n] == null) return -11;
        holds[h] = what == 0 ? st.lines.get(n) : what == 1 ? new Row(sheets[n].sort, sheets[n].numbers.clone()) : null;
        return 1;
    }

    private int refuseFractions(int h, int g) {
        if (!in(h, 0, 3) || !in(g, 0, 3)) return BAD;
        if (holds[h] == null || holds[g] == null) return -11;
        return holds[h] instanceof Frac && holds[g] instanceof Frac ? 0 : -13;
    }

    public int does(int h, int what, int g) {
        if (!in(what, 0, 4)) return BAD;
        int no = refuseFractions(h, g);
        if (no < 0) return no;
        BigInteger a = ((Frac) holds[h]).above, b = ((Frac) holds[h]).below;
        BigInteger c = ((Frac) holds[g]).above, d = ((Frac) holds[g]).below;
        if (what == 3 && c.signum() == 0) return -15;
        BigInteger ad = a.multiply(d), cb = c.multiply(b), bd = b.multiply(d), ac = a.multiply(c);
        BigInteger[] all = switch (what) {
            case 0 -> new BigInteger[] {ad.add(cb), bd, ad, cb};
            case 1 -> new BigInteger[] {ad.subtract(cb), bd, ad, cb};
            case 2 -> new BigInteger[] {ac, bd};
            case 3 -> new BigInteger[] {ad, b.multiply(c)};
            default -> new BigInteger[] {a.add(c), b.add(d)};
        };
        for (BigInteger x : all) if (!is64(x)) return MUCH;
        return take(h, all[0], all[1]);
    }

    public int compare(int h, int g) {
        int no = refuseFractions(h, g);
        if (no < 0) return no;
        Frac x = (Frac) holds[h], y = (Frac) holds[g];
        return x.above.multiply(y.below).compareTo(y.above.multiply(x.below)) + 1;
    }

    public long told(int h, int what) {
        if (!in(h, 0, 3) || !in(what, 0, 6)) return NO + BAD;
        Object x = holds[h];
        if (x == null) return NO - 11;
        if (x instanceof Frac f && what < 3) {
            return (what == 0 ? f.above : what == 1 ? f.below : f.above.divide(f.below)).longValueExact();
        }
        if (x instanceof Line l && (what == 3 || what == 4)) return what == 3 ? l.kind : l.gap();
        if (x instanceof Row r && what > 4) return what == 5 ? r.numbers.length : Arrays.stream(r.numbers).sum();
        return NO - 13;
    }

    // ---- texts

    public int feed(int bytes, int n) {
        if (!in(n, 1, 4)) return BAD;
        if (tape.length() + n > 120) return FULL;
        for (int shift = 8 * (n - 1); shift >= 0; shift -= 8) tape.append((char) (bytes >>> shift & 255));
        return tape.length();
    }

    public int wipe() {
        int n = tape.length();
        tape.setLength(0);
        return n;
    }

    private static final class Fault extends RuntimeException {
        final int at;

        Fault(int at) {
            super(null, null, false, false);
            this.at = at;
        }
    }

    private record Token(int at, String text) { }

    private static List<Token> tokens(String s) {
        List<Token> all = new ArrayList<>();
        java.util.regex.Matcher m = java.util.regex.Pattern.compile("[a-z]+|[0-9]+|[^ a-z0-9]", 32).matcher(s);
        while (m.find()) all.add(new Token(m.start(), m.group()));
        all.add(new Token(s.length(), ""));
        return all;
    }

    private int number(Token t, int lo, int hi) {
        if (!t.text.matches("[0-9]+")) throw new Fault(t.at);
        BigInteger v = new BigInteger(t.text);
        if (v.compareTo(BigInteger.valueOf(lo)) < 0 || v.compareTo(BigInteger.valueOf(hi)) > 0) throw new Fault(t.at);
        return v.intValue();
    }

    private int item(State s, List<Token> t, int i) {
        String word = t.get(i).text;
        int n = s.lists.size();
        if (word.equals("points")) {
            for (int more = number(t.get(i + 1), 1, 6 - n); more > 0; more--) s.lists.add(ALL);
            return i + 2;
        }
        if (word.equals("list")) {
            int p = number(t.get(i + 1), 0, n - 1);
            int from = number(t.get(i + 2), 0, 39);
            int to = number(t.get(i + 3), from, 39);
            long set = 0;
            for (int c = from; c <= to; c++) set |= 1L << c;
            s.lists.set(p, set);
            return i + 4;
        }
        if (!word.equals("round") && !(word.equals("line") && s.lines.size() < 10)) throw new Fault(t.get(i).at);
        int kind = List.of("plain", "wide", "thin", "span", "even").indexOf(t.get(i + 1).text);
        if (kind < 0) throw new Fault(t.get(i + 1).at);
        int figure = number(t.get(i + 2), 1, 3);
        int a = number(t.get(i + 3), 0, n - 1);
        int b = number(t.get(i + 4), 0, n - 1);
        if (word.equals("line")) {
            if (a == b || s.joined(a, b)) throw new Fault(t.get(i + 4).at);
            s.join(kind, figure, a, b);
        } else {
            if (b <= a) throw new Fault(t.get(i + 4).at);
            for (int c = a; c < b; c++) if (!s.joined(c, c + 1) && s.lines.size() < 10) s.join(kind, figure, c, c + 1);
            if (!s.joined(a, b) && s.lines.size() < 10) s.join(kind, figure, a, b);
        }
        return i + 5;
    }

    public int text() {
        String s = tape.toString();
        tape.setLength(0);
        State then = st.twin();
        List<Token> t = tokens(s);
        int items = 0;
        try {
            int i = 0;
            while (true) {
                i = item(then, t, i);
                items++;
                if (t.get(i).text.isEmpty()) break;
                if (!t.get(i).text.equals(";")) throw new Fault(t.get(i).at);
                i++;
            }
        } catch (Fault f) {
            return -100 - f.at;
        }
        st = then;
        return items;
    }

    // ---- draws, sheets, the image

    public int seed(int v) {
        int was = st.z;
        st.z = v;
        return was;
    }

    public int deal(int n, int odds) {
        if (!in(n, 1, 6) || !in(odds, 0, 10)) return BAD;
        int z = st.z;
        st = new State();
        st.z = z;
        for (int i = 0; i < n; i++) st.lists.add(ALL);
        for (int hi = 0; hi < n; hi++) {
            for (int lo = 0; lo < hi; lo++) {
                if (nl() == 10) return 10;
                if (st.draw() % 10 < odds) {
                    int kind = st.draw() % 5;
                    int figure = 1 + st.draw() % 3;
                    st.join(kind, figure, lo, hi);
                }
            }
        }
        return nl();
    }

    public int sheet(int s, int sort, int n) {
        if (!in(s, 0, 3) || !in(sort, -1, 1)) return BAD;
        if (sort >= 0 && n > 40) return BAD;
        if (sort >= 0 && n < 0) return -14;
        sheets[s] = sort < 0 ? null : new Row(sort, new long[n]);
        return 1;
    }

    public int write(int s, int i, long v) {
        if (!in(s, 0, 3)) return BAD;
        if (sheets[s] == null) return -11;
        if (!in(i, 0, sheets[s].numbers.length - 1)) return -12;
        if (sheets[s].sort == 0 && !in(v, Integer.MIN_VALUE, Integer.MAX_VALUE)) return MUCH;
        sheets[s].numbers[i] = v;
        return 1;
    }

    public long item(int s, int i) {
        if (!in(s, 0, 3)) return NO + BAD;
        if (sheets[s] == null) return NO - 11;
        if (!in(i, 0, sheets[s].numbers.length - 1)) return NO - 12;
        return sheets[s].numbers[i];
    }

    public int copy(int s, int i, int t, int j, int n) {
        if (!in(s, 0, 3) || !in(t, 0, 3)) return BAD;
        if (sheets[s] == null || sheets[t] == null) return -11;
        if (sheets[s].sort != sheets[t].sort) return -13;
        if (n < 0 || i < 0 || j < 0) return -12;
        if ((long) i + n > sheets[s].numbers.length || (long) j + n > sheets[t].numbers.length) return -12;
        long[] were = sheets[s].numbers.clone();
        for (int k = 0; k < n; k++) sheets[t].numbers[j + k] = were[i + k];
        return n;
    }

    public int paint(int s, int p, int q, int lists) {
        if (!in(s, 0, 3) || !measures(p, q, lists)) return BAD;
        int[] row = firstColouring(p, q, lists);
        if (row == null) return NONE;
        sheets[s] = new Row(0, Arrays.stream(row).asLongStream().toArray());
        return row.length;
    }

    public int image() {
        img = st.twin();
        return nl();
    }

    public int back() {
        if (img == null) return STATE;
        st = img.twin();
        return nl();
    }
}
