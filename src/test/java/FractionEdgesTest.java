import java.math.BigInteger;

/** Boundary cases of promises 27 to 32: fractions that come next, holds. The number before a row's name is the promise. */
public final class FractionEdgesTest extends Edge {
    private static final long HALF = 1L << 62, ROOT = 3037000499L;

    // 0 a FRACTION, 1 a LINE, 2 a ROW, 3 nothing
    private static final Scene HELD = () -> {
        CircleTints x = SOME.make();
        x.sheet(3, 0, 0);
        return x;
    };

    public static void main(String[] args) {
        nextBounds();
        nextNone();
        nextAtItsEdges();
        fractionRefusals();
        fractionMuch();
        fractionsByGreatNumbers();
        holdBounds();
        holdAsItIsNow();
        doesRefusals();
        doesWithItself();
        doesMuch();
        everySum();
        compareRefusals();
        everyOrder();
        toldRefusals();
        toldOfEach();
        end();
    }

    private static void nextBounds() {
        bounds("27 p", SOME, (x, v) -> x.next(v, 7, 5, 1, 0), 0, 9999, BAD);
        bounds("27 q", SOME, (x, v) -> x.next(7, v, 5, 0, 0), 1, 9999, BAD);
        bounds("27 n", SOME, (x, v) -> x.next(7, 5, v, 0, 0), 1, 9999, BAD);
        bounds("27 side", SOME, (x, v) -> x.next(7, 5, 3, v, 0), 0, 1, BAD);
        bounds("27 part", SOME, (x, v) -> x.next(7, 5, 3, 0, v), 0, 1, BAD);
        bounds("27 BAD q before NONE", EMPTY, (x, v) -> x.next(0, v, 5, 0, 0), 1, 9999, BAD);
        bounds("27 BAD n before NONE", EMPTY, (x, v) -> x.next(0, 5, v, 0, 0), 1, 9999, BAD);
        bounds("27 BAD part before NONE", EMPTY, (x, v) -> x.next(0, 5, 3, 0, v), 0, 1, BAD);
    }

    private static void nextNone() {
        for (int part = 0; part < 2; part++) {
            int which = part;
            for (int n : new int[] {1, 9999}) {
                refuses("27 none less than 0", SOME, x -> x.next(0, 1, n, 0, which), NONE);
                refuses("27 none less than 0 of 9999", SOME, x -> x.next(0, 9999, n, 0, which), NONE);
                asks("27 0 is less than 1 of 9999", SOME, x -> x.next(1, 9999, 1, 0, which), which);
                asks("27 more than 0", SOME, x -> x.next(0, 9999, n, 1, which), which == 0 ? 1 : n);
            }
        }
    }

    private static void nextAtItsEdges() {
        int[] edges = {0, 1, 2, 3, 5, 4999, 5000, 5001, 9997, 9998, 9999};
        CircleTints x = new CircleTints();
        NaiveTints naive = new NaiveTints();
        for (int p : edges) {
            for (int q : edges) {
                for (int n : edges) {
                    for (int w = 0; w < 4; w++) {
                        String what = "27 next to " + p + " of " + q + " by " + n + ", " + w;
                        due(what, x.next(p, q, n, w / 2, w % 2), naive.next(p, q, n, w / 2, w % 2));
                    }
                }
            }
        }
        due("27 the greatest above", x.next(9999, 1, 9999, 1, 0), 99980002);
        due("27 the greatest below", x.next(9999, 1, 9999, 1, 1), 9999);
        due("27 itself in other terms does not come", x.next(2, 4, 2, 1, 0) * 10 + x.next(2, 4, 2, 1, 1), 11);
        due("27 nor below it", x.next(2, 4, 2, 0, 0) * 10 + x.next(2, 4, 2, 0, 1), 1);
    }

    private static void fractionRefusals() {
        for (Scene scene : SCENES) {
            bounds("28 h", scene, (x, h) -> x.fraction(h, 1, 2), 0, 3, BAD);
            bounds("28 BAD before -15", scene, (x, h) -> x.fraction(h, 1, 0), 0, 3, BAD);
            bounds("28 BAD before MUCH", scene, (x, h) -> x.fraction(h, LEAST, -1), 0, 3, BAD);
            for (int i = 0; i < 4; i++) {
                int h = i;
                for (long above : new long[] {0, 1, -1, LEAST, MOST}) refuses("28 below is 0", scene, x -> x.fraction(h, above, 0), BY_0);
                refuses("28 MUCH above", scene, x -> x.fraction(h, LEAST, -1), MUCH);
                refuses("28 MUCH below", scene, x -> x.fraction(h, 1, LEAST), MUCH);
            }
        }
    }

    private static void dueFraction(String what, CircleTints x, int h, long above, long below) {
        due(what + ", above", x.told(h, 0), above);
        due(what + ", below", x.told(h, 1), below);
    }

    private static void dueTaken(String what, long above, long below, long a, long b) {
        CircleTints x = new CircleTints();
        due("28 " + what, x.fraction(3, above, below), 1);
        dueFraction("28 " + what, x, 3, a, b);
    }

    private static void fractionMuch() {
        dueTaken("least above stays", LEAST, 1, LEAST, 1);
        dueTaken("least above by an odd number", LEAST, 3, LEAST, 3);
        dueTaken("least above by the most", LEAST, MOST, LEAST, MOST);
        dueTaken("least above by -2", LEAST, -2, HALF, 1);
        dueTaken("least below by 2", 2, LEAST, -1, HALF);
        dueTaken("least below by -2", -2, LEAST, 1, HALF);
        dueTaken("least of least", LEAST, LEAST, 1, 1);
        dueTaken("half of least", HALF, LEAST, -1, 2);
        dueTaken("least of half", LEAST, HALF, -2, 1);
        dueTaken("least of -half", LEAST, -HALF, 2, 1);
        dueTaken("0 of least", 0, LEAST, 0, 1);
        dueTaken("0 of the most", 0, MOST, 0, 1);
        dueTaken("the most of the most", MOST, MOST, 1, 1);
        dueTaken("the most of -the most", MOST, -MOST, -1, 1);
        dueTaken("the most of -1", MOST, -1, -MOST, 1);
        dueTaken("one more than least of -1", LEAST + 1, -1, MOST, 1);
        dueTaken("1 of one more than least", 1, LEAST + 1, -1, MOST);
        CircleTints x = new CircleTints();
        for (long odd : new long[] {1, -1, 3, -3, MOST, -MOST}) due("28 odd of least", x.fraction(0, odd, LEAST), MUCH);
        for (long odd : new long[] {-1, -3, -7, -MOST}) due("28 least of odd below 0", x.fraction(0, LEAST, odd), MUCH);
        due("28 still nothing", x.told(0, 0), NO + MISSING);
    }

    private static long[] edges() {
        return new long[] {LEAST, LEAST + 1, LEAST + 2, -HALF - 1, -HALF, -HALF + 1, -ROOT - 1, -ROOT, -(1L << 32), -(1L << 31), -3, -2, -1,
            0, 1, 2, 3, 6, (1L << 31) - 1, 1L << 31, ROOT, ROOT + 1, HALF - 1, HALF, HALF + 1, MOST - 2, MOST - 1, MOST};
    }

    private static void fractionsByGreatNumbers() {
        for (long a : edges()) {
            for (long b : edges()) {
                CircleTints x = new CircleTints();
                NaiveTints naive = new NaiveTints();
                String what = "28 " + a + " of " + b;
                due(what, x.fraction(0, a, b), naive.fraction(0, a, b));
                for (int w = 0; w < 3; w++) due(what + ", told " + w, x.told(0, w), naive.told(0, w));
                if (b != 0 && b != LEAST && (a != LEAST || b != -1)) due("32 " + what + ", cut", x.told(0, 2), x.told(0, 0) == NO + MISSING ? NO + MISSING : a / b);
            }
        }
    }

    private static void holdBounds() {
        for (int what = 0; what < 3; what++) {
            int which = what;
            bounds("29 h", SOME, (x, h) -> x.hold(h, which, 0), 0, 3, BAD);
        }
        bounds("29 what, a LINE there is", SOME, (x, w) -> x.hold(0, w, 0), 0, 2, BAD);
        bounds("29 l", SOME, (x, n) -> x.hold(3, 0, n), 0, 4, BAD);
        bounds("29 l of ten", FILLED, (x, n) -> x.hold(0, 0, n), 0, 9, BAD);
        bounds("29 s", SOME, (x, n) -> x.hold(3, 1, n), 0, 3, BAD);
        bounds("29 s when full", FILLED, (x, n) -> x.hold(0, 1, n), 0, 3, BAD);
        for (int h = 0; h < 4; h++) {
            int holder = h;
            refuses("29 no LINES", EMPTY, x -> x.hold(holder, 0, 0), BAD);
            refuses("29 missing", SOME, x -> x.hold(holder, 1, 3), MISSING);
            for (int n : new int[] {MIN, -1, 0, 4, 10, MAX}) {
                CircleTints x = FILLED.make();
                due("29 nothing, n does not matter", x.hold(h, 2, n), 1);
                due("29 holds nothing", x.told(h, 0), NO + MISSING);
            }
        }
        refuses("29 BAD h before missing", SOME, x -> x.hold(4, 1, 3), BAD);
        refuses("29 BAD what before missing", SOME, x -> x.hold(0, 3, 3), BAD);
        due("29 nothing where nothing is", new CircleTints().hold(0, 2, 0), 1);
    }

    private static void holdAsItIsNow() {
        CircleTints x = SOME.make();
        x.change(0, 0, 0);
        x.drop(0);
        due("32 KIND of then", x.told(1, 3), 1);
        due("32 GAP of then", x.told(1, 4), 3);
        x.deal(1, 0);
        due("32 GAP of a LINE that is gone", x.told(1, 4), 3);
        x.sheet(1, -1, 0);
        due("32 a ROW whose SHEET is gone", x.told(2, 5), 3);
        due("32 its sum wraps", x.told(2, 6), 0);
        x.sheet(1, 0, 40);
        due("32 of then", x.told(2, 5), 3);
        due("29 another thing takes its place", x.hold(2, 1, 1), 1);
        due("32 forty", x.told(2, 5), 40);
        due("28 a FRACTION takes its place", x.fraction(2, 1, 1), 1);
        due("32 no ROW", x.told(2, 5), NO + SORTS);
        x.sheet(0, 1, 0);
        due("29 an empty ROW", x.hold(2, 1, 0), 1);
        due("32 no numbers", x.told(2, 5), 0);
        due("32 no sum", x.told(2, 6), 0);
        x.sheet(0, 0, 40);
        for (int i = 0; i < 40; i++) x.write(0, i, MIN);
        x.hold(2, 1, 0);
        due("32 ints are added as longs", x.told(2, 6), 40L * MIN);
    }

    private static void doesRefusals() {
        for (int what = 0; what < 5; what++) {
            int which = what;
            bounds("30 h", FILLED, (x, h) -> x.does(h, which, 1), 0, 3, BAD);
            bounds("30 g", FILLED, (x, g) -> x.does(0, which, g), 0, 3, BAD);
            refuses("30 h holds nothing", HELD, x -> x.does(3, which, 0), MISSING);
            refuses("30 g holds nothing", HELD, x -> x.does(0, which, 3), MISSING);
            refuses("30 both hold nothing", HELD, x -> x.does(3, which, 3), MISSING);
            refuses("30 a LINE", HELD, x -> x.does(1, which, 0), SORTS);
            refuses("30 with a LINE", HELD, x -> x.does(0, which, 1), SORTS);
            refuses("30 a ROW", HELD, x -> x.does(2, which, 0), SORTS);
            refuses("30 with a ROW", HELD, x -> x.does(0, which, 2), SORTS);
            refuses("30 nothing before a LINE", HELD, x -> x.does(1, which, 3), MISSING);
            refuses("30 nothing before a ROW", HELD, x -> x.does(3, which, 2), MISSING);
        }
        bounds("30 what", HELD, (x, w) -> x.does(0, w, 0), 0, 4, BAD);
        bounds("30 BAD what before nothing", HELD, (x, w) -> x.does(3, w, 3), 0, 4, BAD);
        bounds("30 BAD what before a LINE", HELD, (x, w) -> x.does(1, w, 2), 0, 4, BAD);
        Scene zero = () -> {
            CircleTints x = HELD.make();
            x.fraction(3, 0, 1);
            return x;
        };
        refuses("30 parted by 0", zero, x -> x.does(0, 3, 3), BY_0);
        refuses("30 0 parted by 0", zero, x -> x.does(3, 3, 3), BY_0);
        refuses("30 a LINE before parted by 0", zero, x -> x.does(1, 3, 3), SORTS);
        bounds("30 BAD h before parted by 0", zero, (x, h) -> x.does(h, 3, 3), 0, 3, BAD);
    }

    private static void doesWithItself() {
        long[][] dues = {{3, 1}, {0, 1}, {9, 4}, {1, 1}, {3, 2}};
        for (int what = 0; what < 5; what++) {
            CircleTints x = new CircleTints();
            x.fraction(2, 3, 2);
            due("30 with itself", x.does(2, what, 2), 1);
            dueFraction("30 with itself, " + what, x, 2, dues[what][0], dues[what][1]);
        }
    }

    private static void dueDoes(String what, long[] h, int does, long[] g, long... result) {
        Scene scene = () -> {
            CircleTints x = new CircleTints();
            x.fraction(1, h[0], h[1]);
            x.fraction(2, g[0], g[1]);
            return x;
        };
        if (result.length == 0) {
            refuses("30 " + what, scene, x -> x.does(1, does, 2), MUCH);
            return;
        }
        CircleTints x = scene.make();
        due("30 " + what, x.does(1, does, 2), 1);
        dueFraction("30 " + what, x, 1, result[0], result[1]);
    }

    private static long[] of(long above, long below) {
        return new long[] {above, below};
    }

    private static void doesMuch() {
        dueDoes("sum, the most", of(MOST - 1, 1), 0, of(1, 1), MOST, 1);
        dueDoes("sum, one more", of(MOST, 1), 0, of(1, 1));
        dueDoes("sum, the least", of(LEAST + 1, 1), 0, of(-1, 1), LEAST, 1);
        dueDoes("sum, one less", of(LEAST, 1), 0, of(-1, 1));
        dueDoes("a*d alone is too great", of(HALF, 1), 0, of(-1, 3));
        dueDoes("c*b alone is too great", of(-1, 3), 0, of(HALF, 1));
        dueDoes("a*d and c*b would wrap back", of(HALF, 1), 1, of(HALF * 2 - 1, 2));
        dueDoes("b*d alone is too great", of(1, ROOT + 1), 0, of(1, ROOT + 2));
        // by these all bits change that tell a sum, a difference that wrapped
        long third = 0x5555555555555555L;
        dueDoes("sum, all bits change", of(third, 1), 0, of(third, 1));
        dueDoes("difference, all bits change", of(~third, 1), 1, of(third, 1));
        dueDoes("b*d just isn't", of(0, 1), 0, of(1, MOST), 1, MOST);
        dueDoes("difference, the most", of(MOST - 1, 1), 1, of(-1, 1), MOST, 1);
        dueDoes("difference, one more", of(MOST, 1), 1, of(-1, 1));
        dueDoes("difference, the least", of(LEAST + 1, 1), 1, of(1, 1), LEAST, 1);
        dueDoes("difference, one less", of(LEAST, 1), 1, of(1, 1));
        dueDoes("less least", of(-1, 1), 1, of(LEAST, 1), MOST, 1);
        dueDoes("0 less least", of(0, 1), 1, of(LEAST, 1));
        dueDoes("product, least", of(HALF, 1), 2, of(-2, 1), LEAST, 1);
        dueDoes("product, one too great", of(HALF, 1), 2, of(2, 1));
        dueDoes("product by -1", of(LEAST, 1), 2, of(-1, 1));
        dueDoes("product by -1, the other way", of(-1, 1), 2, of(LEAST, 1));
        dueDoes("product by 1", of(1, 1), 2, of(LEAST, 1), LEAST, 1);
        dueDoes("product by 0", of(LEAST, 1), 2, of(0, 1), 0, 1);
        dueDoes("product 0, b*d is too great", of(0, 1), 2, of(1, MOST), 0, 1);
        dueDoes("product too great before lowest terms", of(HALF, 3), 2, of(3, HALF + 1));
        dueDoes("product, b*d too great", of(1, HALF), 2, of(1, 2));
        dueDoes("quotient, a*d too great", of(HALF, 1), 3, of(1, 2));
        dueDoes("quotient, b*c too great", of(1, 2), 3, of(HALF, 1));
        dueDoes("quotient by less than 0", of(1, 2), 3, of(-HALF, 1));
        dueDoes("quotient by least", of(1, 1), 3, of(LEAST, 1));
        dueDoes("quotient by least, in lowest terms", of(2, 1), 3, of(LEAST, 1), -1, HALF);
        dueDoes("quotient of least by -1", of(LEAST, 1), 3, of(-1, 1));
        dueDoes("quotient of least by 1", of(LEAST, 1), 3, of(1, 1), LEAST, 1);
        dueDoes("quotient of least by least", of(LEAST, 1), 3, of(LEAST, 1), 1, 1);
        dueDoes("quotient of 0 by least", of(0, 1), 3, of(LEAST, 1), 0, 1);
        dueDoes("a + c, the most", of(MOST - 1, 1), 4, of(1, 2), MOST, 3);
        dueDoes("a + c, one more", of(MOST, 1), 4, of(1, 1));
        dueDoes("a + c, the least", of(LEAST + 1, 1), 4, of(-1, 1), -HALF, 1);
        dueDoes("a + c, one less", of(LEAST, 1), 4, of(-1, 1));
        dueDoes("b + d, the most", of(1, MOST - 1), 4, of(1, 1), 2, MOST);
        dueDoes("b + d, one more", of(1, MOST), 4, of(1, 1));
        dueDoes("b + d one more, a + c 0", of(1, MOST), 4, of(-1, 1));
    }

    /** All fractions of numbers at the edges, each two of them, held against whole numbers of any size. */
    private static void everySum() {
        long[] all = {LEAST, LEAST + 1, -HALF, -ROOT, -2, -1, 0, 1, 3, ROOT, ROOT + 1, HALF, MOST - 1, MOST};
        long[] belows = {1, 2, 3, ROOT, ROOT + 1, HALF, MOST};
        CircleTints x = new CircleTints();
        NaiveTints naive = new NaiveTints();
        for (long a : all) {
            for (long b : belows) {
                for (long c : all) {
                    for (long d : belows) {
                        x.fraction(1, c, d);
                        naive.fraction(1, c, d);
                        for (int what = 0; what < 5; what++) {
                            x.fraction(0, a, b);
                            naive.fraction(0, a, b);
                            due("30 " + what, x.does(0, what, 1), naive.does(0, what, 1));
                            due("30 above", x.told(0, 0), naive.told(0, 0));
                            due("30 below", x.told(0, 1), naive.told(0, 1));
                        }
                    }
                }
            }
        }
    }

    private static void compareRefusals() {
        bounds("31 h", FILLED, (x, h) -> x.compare(h, 0), 0, 3, BAD);
        bounds("31 g", FILLED, (x, g) -> x.compare(0, g), 0, 3, BAD);
        bounds("31 BAD before nothing", EMPTY, (x, h) -> x.compare(h, 0), 0, 3, BAD);
        refuses("31 nothing", HELD, x -> x.compare(3, 0), MISSING);
        refuses("31 with nothing", HELD, x -> x.compare(0, 3), MISSING);
        refuses("31 nothing before a LINE", HELD, x -> x.compare(1, 3), MISSING);
        refuses("31 nothing before a ROW", HELD, x -> x.compare(3, 2), MISSING);
        refuses("31 a LINE", HELD, x -> x.compare(1, 0), SORTS);
        refuses("31 with a ROW", HELD, x -> x.compare(0, 2), SORTS);
        refuses("31 a LINE with itself", HELD, x -> x.compare(1, 1), SORTS);
        asks("31 with itself", HELD, x -> x.compare(0, 0), 1);
        asks("31 great ones", FILLED, x -> x.compare(0, 1), 0);
        asks("31 great ones, the other way", FILLED, x -> x.compare(1, 0), 2);
    }

    private static void everyOrder() {
        CircleTints x = new CircleTints();
        for (long a : edges()) {
            for (long b : new long[] {1, 2, 3, ROOT, ROOT + 1, HALF - 1, HALF, MOST - 1, MOST}) {
                x.fraction(0, a, b);
                for (long c : edges()) {
                    for (long d : new long[] {1, 3, ROOT, HALF, MOST - 1, MOST}) {
                        x.fraction(1, c, d);
                        BigInteger left = BigInteger.valueOf(a).multiply(BigInteger.valueOf(d));
                        BigInteger right = BigInteger.valueOf(c).multiply(BigInteger.valueOf(b));
                        due("31 " + a + " of " + b + ", " + c + " of " + d, x.compare(0, 1), 1 + left.compareTo(right));
                    }
                }
            }
        }
    }

    private static void toldRefusals() {
        for (Scene scene : SCENES) {
            bounds("32 h", scene, (x, h) -> x.told(h, 0), 0, 3, NO + BAD);
            bounds("32 what", scene, (x, w) -> x.told(0, w), 0, 6, NO + BAD);
        }
        bounds("32 BAD what before nothing", HELD, (x, w) -> x.told(3, w), 0, 6, NO + BAD);
        bounds("32 BAD what before another thing", HELD, (x, w) -> x.told(1, w), 0, 6, NO + BAD);
        for (int w = 0; w < 7; w++) {
            int what = w;
            refuses("32 nothing", HELD, x -> x.told(3, what), NO + MISSING);
            if (w > 2) refuses("32 of a FRACTION", HELD, x -> x.told(0, what), NO + SORTS);
            if (w < 3 || w > 4) refuses("32 of a LINE", HELD, x -> x.told(1, what), NO + SORTS);
            if (w < 5) refuses("32 of a ROW", HELD, x -> x.told(2, what), NO + SORTS);
        }
    }

    private static void toldOfEach() {
        asks("32 above", HELD, x -> x.told(0, 0), -3);
        asks("32 below", HELD, x -> x.told(0, 1), 2);
        asks("32 cut towards 0", HELD, x -> x.told(0, 2), -1);
        asks("32 KIND", HELD, x -> x.told(1, 3), 1);
        asks("32 GAP", HELD, x -> x.told(1, 4), 3);
        asks("32 how many", HELD, x -> x.told(2, 5), 3);
        asks("32 all together, wrapped", HELD, x -> x.told(2, 6), 0);
        CircleTints x = new CircleTints();
        x.fraction(0, -1, 2);
        due("32 cut to 0 from below", x.told(0, 2), 0);
        x.fraction(0, 1, 2);
        due("32 cut to 0", x.told(0, 2), 0);
        x.fraction(0, LEAST, 1);
        due("32 the least", x.told(0, 2), LEAST);
        x.fraction(0, NO, 1);
        due("32 a number like a refusal's", x.told(0, 0), NO);
    }
}
