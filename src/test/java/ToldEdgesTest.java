/** Boundary cases of promises 23 to 26: told colourings. The number before a row's name is the promise. */
public final class ToldEdgesTest extends Edge {
    private interface Asked {
        long on(CircleTints x, int s, int p, int q);
    }

    // sheets: a colouring by 5, 2; one number too few; no colouring; missing
    private static final Scene FIVE = () -> {
        CircleTints x = net("points 5;round plain 1 0 4");
        fill(x, 0, 0, 0, 2, 4, 1, 3);
        fill(x, 1, 1, 0, 2, 4, 1);
        fill(x, 2, 1, 0, 2, 4, 1, 4);
        return x;
    };
    private static final Asked[] CALLS = {
        (x, s, p, q) -> x.judge(s, p, q), (x, s, p, q) -> x.arcs(s, p, q), (x, s, p, q) -> x.tight(s, p, q, 0),
        (x, s, p, q) -> x.tight(s, p, q, 1), (x, s, p, q) -> x.rounds(s, p, q, 2)};
    private static final int[] PROMISES = {23, 24, 25, 25, 26};

    public static void main(String[] args) {
        measures();
        refusalsInTheirOrder();
        justEnoughNumbers();
        noPoints();
        placesAtTheirEdges();
        justFarEnough();
        theFirstWrong();
        arcs();
        tightRefusals();
        tightRings();
        roundsRefusals();
        roundsAtTheirEdges();
        roundsTruly();
        end();
    }

    private static void measures() {
        for (int c = 0; c < CALLS.length; c++) {
            Asked call = CALLS[c];
            String what = PROMISES[c] + "";
            bounds(what + " s", FIVE, (x, v) -> call.on(x, v, 5, 2), 0, 3, BAD);
            bounds(what + " p", FIVE, (x, v) -> call.on(x, 0, v, 2), 1, 40, BAD);
            bounds(what + " q", FIVE, (x, v) -> call.on(x, 0, 5, v), 1, 6, BAD);
            bounds(what + " p, missing", FIVE, (x, v) -> call.on(x, 3, v, 2), 1, 40, BAD);
            bounds(what + " q, too short", FIVE, (x, v) -> call.on(x, 1, 5, v), 1, 6, BAD);
            refuses(what + " all wrong", FIVE, x -> call.on(x, 4, 41, 7), BAD);
        }
    }

    private static void refusalsInTheirOrder() {
        for (int c = 0; c < CALLS.length; c++) {
            Asked call = CALLS[c];
            String what = PROMISES[c] + "";
            refuses(what + " missing", FIVE, x -> call.on(x, 3, 5, 2), MISSING);
            refuses(what + " too short", FIVE, x -> call.on(x, 1, 5, 2), OUTSIDE);
            // by 4 places the row that is too short isn't right either
            refuses(what + " too short before no COLOURING", FIVE, x -> call.on(x, 1, 4, 2), OUTSIDE);
            refuses(what + " missing though there are no POINTS", EMPTY, x -> call.on(x, 0, 1, 1), MISSING);
            if (c > 0) refuses(what + " no COLOURING", FIVE, x -> call.on(x, 2, 5, 2), STATE);
            if (c > 0) refuses(what + " no COLOURING by fewer", FIVE, x -> call.on(x, 0, 4, 2), STATE);
        }
        asks("23 a COLOURING", FIVE, x -> x.judge(0, 5, 2), NONE);
        asks("23 not right", FIVE, x -> x.judge(2, 5, 2), 4);
    }

    private static void justEnoughNumbers() {
        for (int n = 0; n <= 6; n++) {
            int points = n;
            Scene fewer = () -> {
                CircleTints x = points == 0 ? new CircleTints() : net("points " + points);
                for (int s = 0; s < 3; s++) if (points - 1 + s >= 0) x.sheet(s, s % 2, points - 1 + s);
                x.sheet(3, 1, 40);
                return x;
            };
            if (n > 0) refuses("23 one fewer", fewer, x -> x.judge(0, 1, 1), OUTSIDE);
            if (n > 0) refuses("24 one fewer", fewer, x -> x.arcs(0, 1, 1), OUTSIDE);
            if (n > 0) refuses("25 one fewer", fewer, x -> x.tight(0, 1, 1, 0), OUTSIDE);
            if (n > 0) refuses("26 one fewer", fewer, x -> x.rounds(0, 1, 1, 3), OUTSIDE);
            asks("23 just as many", fewer, x -> x.judge(1, 1, 1), NONE);
            asks("23 one more", fewer, x -> x.judge(2, 1, 1), NONE);
            asks("23 forty", fewer, x -> x.judge(3, 1, 1), NONE);
            asks("24 just as many", fewer, x -> x.arcs(1, 1, 1), 0);
            refuses("25 no LINES, no TIGHT RING", fewer, x -> x.tight(1, 1, 1, 0), NONE);
            due("26 just as many", fewer.make().rounds(1, 1, 1, 0), 1);
        }
    }

    private static void noPoints() {
        CircleTints x = new CircleTints();
        x.sheet(0, 1, 0);
        due("23 no POINTS, no numbers", x.judge(0, 40, 6), NONE);
        due("24 no POINTS", x.arcs(0, 40, 6), 0);
        due("25 no POINTS", x.tight(0, 40, 6, 1), NONE);
        due("26 no POINTS", x.rounds(0, 40, 6, 3), 7);
        dueRow("26 no numbers", x, 3);
        due("26 of ints", x.copy(0, 0, 3, 0, 0), SORTS);
    }

    private static void placesAtTheirEdges() {
        for (int p = 1; p <= 40; p++) {
            CircleTints x = net("points 2");
            fill(x, 0, 1, 0, p - 1);
            due("23 the last place of " + p, x.judge(0, p, 6), NONE);
            for (long far : new long[] {p, -1, MAX, MIN, MOST, LEAST, 1L << 32, -(1L << 32), (1L << 32) + p - 1}) {
                fill(x, 0, 1, 0, far);
                due("23 place " + far + " of " + p, x.judge(0, p, 6), 1);
                due("24 place " + far + " of " + p, x.arcs(0, p, 6), STATE);
                due("25 place " + far + " of " + p, x.tight(0, p, 6, 0), STATE);
                due("26 place " + far + " of " + p, x.rounds(0, p, 6, 1), STATE);
            }
            fill(x, 0, 0, -1, p);
            due("23 the first of two, " + p, x.judge(0, p, 1), 0);
            fill(x, 0, 0, 0, 0, -1, p);
            due("23 numbers beyond the POINTS, " + p, x.judge(0, p, 1), NONE);
        }
    }

    private static void justFarEnough() {
        for (int gap = 1; gap <= 5; gap++) {
            for (int q = 1; q <= 6; q++) {
                int far = q * gap;
                if (2 * far > 40) continue;
                CircleTints x = net("points 6;line span 1 0 " + gap);
                for (int p = 2 * far; p <= 40; p++) {
                    long[] good = {far, p - far};
                    long[] bad = {0, far - 1, p - far + 1};
                    for (long at : good) {
                        fill(x, 0, 1, 0, 0, 0, 0, 0, 0);
                        x.write(0, gap, at);
                        due("23 just so far", x.judge(0, p, q), NONE);
                        due("24 TIGHT, one way or both", x.arcs(0, p, q), p == 2 * far ? 2 : 1);
                        due("25 one alone, TIGHT both ways", x.tight(0, p, q, 0), p == 2 * far ? 1 : NONE);
                        due("25 goes round once", x.tight(0, p, q, 1), p == 2 * far ? 1 : NONE);
                    }
                    for (long at : bad) {
                        x.write(0, gap, at);
                        due("23 not far enough, or none such", x.judge(0, p, q), gap);
                    }
                    if (p > 2 * far + 1) {
                        x.write(0, gap, far + 1);
                        due("24 farther is not TIGHT", x.arcs(0, p, q), 0);
                    }
                }
            }
        }
    }

    private static void theFirstWrong() {
        CircleTints x = net("points 4;line plain 1 0 3;line plain 1 1 2");
        fill(x, 0, 0, 0, 1, 1, 0);
        due("23 the first POINT, not the first LINE", x.judge(0, 9, 1), 2);
        x.write(0, 3, 9);
        due("23 a place that is none comes later", x.judge(0, 9, 1), 2);
        x.write(0, 1, 9);
        due("23 a place that is none comes first", x.judge(0, 9, 1), 1);
        x.write(0, 0, -1);
        due("23 POINT 0", x.judge(0, 9, 1), 0);
        fill(x, 0, 0, 3, 3, 4, 4);
        due("23 without a LINE they may stand at one place", x.judge(0, 9, 1), NONE);
    }

    private static void arcs() {
        asks("24 five, each one way", FIVE, x -> x.arcs(0, 5, 2), 5);
        CircleTints x = net("points 5;round plain 1 0 4;round plain 1 0 3;round plain 1 0 2;round plain 1 1 4;round plain 1 2 4;line plain 1 1 3");
        fill(x, 0, 0, 0, 1, 2, 3, 4);
        due("24 ten LINES, five TIGHT", x.arcs(0, 5, 1), 5);
        due("24 ten LINES, by one more", x.arcs(0, 6, 1), 4);
        x = net("points 2");
        fill(x, 0, 0, 0, 0);
        due("24 no LINES", x.arcs(0, 1, 6), 0);
        x = net("points 6;round plain 1 0 5");
        fill(x, 0, 0, 0, 1, 0, 1, 0, 1);
        due("24 six, all both ways", x.arcs(0, 2, 1), 12);
    }

    private static void tightRefusals() {
        bounds("25 what", FIVE, (x, w) -> x.tight(0, 5, 2, w), 0, 1, BAD);
        refuses("25 BAD what before missing", FIVE, x -> x.tight(3, 5, 2, 2), BAD);
        refuses("25 BAD what before too short", FIVE, x -> x.tight(1, 5, 2, -1), BAD);
        refuses("25 BAD what before STATE", FIVE, x -> x.tight(2, 5, 2, 2), BAD);
        refuses("25 BAD what before NONE", FIVE, x -> x.tight(0, 6, 2, 2), BAD);
        for (int w = 0; w < 2; w++) {
            int what = w;
            Scene loose = () -> {
                CircleTints x = FIVE.make();
                x.paint(0, 6, 2, 0);
                return x;
            };
            refuses("25 none", loose, x -> x.tight(0, 6, 2, what), NONE);
        }
    }

    private static void tightRings() {
        asks("25 five go round twice", FIVE, x -> x.tight(0, 5, 2, 1), 2);
        asks("25 five", FIVE, x -> x.tight(0, 5, 2, 0), 31);
        CircleTints x = net("points 3;round plain 1 0 2");
        fill(x, 0, 0, 0, 1, 2);
        due("25 three, upward", x.tight(0, 3, 1, 0), 7);
        fill(x, 0, 0, 2, 1, 0);
        due("25 three, downward", x.tight(0, 3, 1, 0), 7);
        due("25 three go round once", x.tight(0, 3, 1, 1), 1);
        due("25 by one more none", x.tight(0, 4, 1, 0), NONE);
        // a RING of the highest LINES alone
        x = net("points 6;line plain 1 0 1;round plain 1 3 5");
        fill(x, 0, 0, 0, 2, 0, 0, 2, 4);
        due("25 the least isn't the first LINE", x.tight(0, 6, 2, 0), 14);
        x = net("points 4;round plain 1 0 3");
        fill(x, 0, 0, 1, 0, 3, 2);
        due("25 four round", x.tight(0, 4, 1, 0), 15);
        due("25 four round, once", x.tight(0, 4, 1, 1), 1);
    }

    private static void roundsRefusals() {
        bounds("26 t", FIVE, (x, t) -> x.rounds(0, 5, 2, t), 0, 3, BAD);
        bounds("26 BAD t before missing", FIVE, (x, t) -> x.rounds(3, 5, 2, t), 0, 3, BAD);
        bounds("26 BAD t before too short", FIVE, (x, t) -> x.rounds(1, 5, 2, t), 0, 3, BAD);
        bounds("26 BAD t before STATE", FIVE, (x, t) -> x.rounds(2, 5, 2, t), 0, 3, BAD);
        for (int t = 0; t < 4; t++) {
            int to = t;
            refuses("26 missing, t stays", FIVE, x -> x.rounds(3, 5, 2, to), MISSING);
            refuses("26 too short, t stays", FIVE, x -> x.rounds(1, 5, 2, to), OUTSIDE);
            refuses("26 no COLOURING, t stays", FIVE, x -> x.rounds(2, 5, 2, to), STATE);
        }
    }

    private static void roundsAtTheirEdges() {
        for (int p = 1; p <= 40; p++) {
            for (int q = 1; q <= 6; q++) {
                CircleTints x = net("points 3");
                fill(x, 0, 1, 0, p - 1, (p - 1) / q * q);
                due("26 colours of " + p + " by " + q, x.rounds(0, p, q, 1), p % q == 0 ? p / q : p / q + 1);
                dueRow("26 places of " + p + " by " + q, x, 1, 0, (p - 1) / q, (p - 1) / q);
            }
        }
    }

    private static void roundsTruly() {
        for (int t = 0; t < 4; t++) {
            CircleTints x = FIVE.make();
            due("26 into SHEET " + t, x.rounds(0, 5, 2, t), 3);
            dueRow("26 into SHEET " + t, x, t, 0, 1, 2, 0, 1);
            due("26 of ints", x.write(t, 0, 1L << 31), MUCH);
            if (t != 0) dueRow("26 SHEET s stays", x, 0, 0, 2, 4, 1, 3);
        }
        CircleTints x = net("points 2;line plain 1 0 1");
        x.sheet(0, 1, 40);
        for (int i = 0; i < 40; i++) x.write(0, i, MOST);
        x.write(0, 0, 0);
        x.write(0, 1, 6);
        x.sheet(1, 1, 40);
        due("26 of forty longs", x.rounds(0, 12, 6, 1), 2);
        dueRow("26 just as many as POINTS", x, 1, 0, 1);
        due("26 of forty longs into itself", x.rounds(0, 12, 6, 0), 2);
        dueRow("26 itself, just as many", x, 0, 0, 1);
        due("26 itself, of ints", x.write(0, 1, MOST), MUCH);
    }
}
