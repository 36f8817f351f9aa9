/** Boundary cases of promises 15 to 22: rings, turns, what a line binds, its room. The number before a row's name is the promise. */
public final class RingEdgesTest extends Edge {
    private static final String FIVE_PLAIN = "points 5;round plain 1 0 4;round plain 1 0 3;round plain 1 0 2;"
        + "round plain 1 1 4;round plain 1 2 4;line plain 1 1 3";
    private static final Scene NO_LINES = () -> net("points 6");
    private static final Scene ONE = () -> net("points 2;line plain 3 1 0");
    private static final Scene THREE = () -> net("points 3;round plain 1 0 2");
    private static final Scene FIVE = () -> net("points 5;round plain 1 0 4");

    public static void main(String[] args) {
        howManyRings();
        ringBounds();
        ringsInTheirOrder();
        turnBounds();
        circledOrNot();
        rateRefusals();
        ratesAtTheirEdges();
        worstIsTheLeast();
        turns();
        binds();
        roomBounds();
        roomAtItsEdges();
        ringsThatAreGone();
        end();
    }

    private static void howManyRings() {
        asks("15 no POINTS", EMPTY, x -> x.rings(), 0);
        asks("15 no LINES", NO_LINES, x -> x.rings(), 0);
        asks("15 one alone", ONE, x -> x.rings(), 1);
        asks("15 two are no RING", () -> net("points 3;line plain 1 0 1;line plain 1 1 2"), x -> x.rings(), 2);
        asks("15 three that go round", THREE, x -> x.rings(), 4);
        asks("15 three that don't", () -> net("points 4;line plain 1 0 1;line plain 1 1 2;line plain 1 2 3"), x -> x.rings(), 3);
        asks("15 three at one POINT", () -> net("points 4;line plain 1 0 1;line plain 1 0 2;line plain 1 0 3"), x -> x.rings(), 3);
        asks("15 six round", () -> net("points 6;round plain 1 0 5"), x -> x.rings(), 7);
        asks("15 two threes apart", () -> net("points 6;round plain 1 0 2;round plain 1 3 5"), x -> x.rings(), 8);
        asks("15 two threes at one POINT", () -> net("points 5;round plain 1 0 2;round plain 1 2 4"), x -> x.rings(), 8);
        asks("15 the most", () -> net(FIVE_PLAIN), x -> x.rings(), 47);
    }

    private static void ringBounds() {
        Scene[] scenes = {EMPTY, NO_LINES, ONE, THREE, SOME, FILLED};
        for (Scene scene : scenes) {
            int rings = scene.make().rings();
            for (int w = 0; w < 3; w++) {
                int what = w;
                bounds("16 i", scene, (x, i) -> x.ring(i, what), 0, rings - 1, NONE);
            }
            bounds("16 what", scene, (x, w) -> x.ring(0, w), 0, 2, BAD);
            refuses("16 BAD before NONE", scene, x -> x.ring(rings, 3), BAD);
            refuses("16 BAD before NONE, below", scene, x -> x.ring(-1, -1), BAD);
        }
    }

    private static void ringsInTheirOrder() {
        int last = 0;
        CircleTints x = net(FIVE_PLAIN);
        for (int i = 0; i < 47; i++) {
            int set = x.ring(i, 0);
            if (set <= last) fault("16 RING " + i + " is " + set + " behind " + last);
            int many = Integer.bitCount(set);
            due("16 as many POINTS as LINES", Integer.bitCount(x.ring(i, 1)), many == 1 ? 2 : many);
            due("16 LENGTH, of one alone twice", x.ring(i, 2), many == 1 ? 2 : many);
            last = set;
        }
        asks("16 POINTS of one alone", ONE, y -> y.ring(0, 1), 3);
        asks("16 LENGTH of one alone", ONE, y -> y.ring(0, 2), 6);
        asks("16 the highest LINE alone", FILLED, y -> y.ring(46, 2) > 0 ? 1 : 0, 1);
    }

    private static void turnBounds() {
        Scene[] scenes = {EMPTY, NO_LINES, ONE, THREE, SOME, FILLED};
        for (Scene scene : scenes) {
            int most = (1 << scene.make().count(1)) - 1;
            bounds("17 turn", scene, (x, t) -> x.circled(t), 0, most, BAD);
            bounds("18 turn, above", scene, (x, t) -> x.rate(t, 0), 0, most, BAD);
            bounds("18 turn, below", scene, (x, t) -> x.rate(t, 1), 0, most, BAD);
            bounds("18 part", scene, (x, v) -> x.rate(0, v), 0, 1, BAD);
            bounds("19 turn", scene, (x, t) -> x.worst(t), 0, most, BAD);
            refuses("17 a high bit beside others", scene, x -> x.circled(MIN | most), BAD);
            refuses("19 the next bit beside others", scene, x -> x.worst(most + 1 | most), BAD);
        }
    }

    private static void circledOrNot() {
        asks("17 no LINES, the empty TURN", EMPTY, x -> x.circled(0), 0);
        asks("17 one alone is no RING of three", ONE, x -> x.circled(0), 0);
        asks("17 one alone, turned", ONE, x -> x.circled(1), 0);
        // LINES 0-1, 1-2, 0-2: round only by the TURNS 011 and 100
        for (int t = 0; t < 8; t++) {
            int turn = t;
            asks("17 TURN " + t, THREE, x -> x.circled(turn), t == 3 || t == 4 ? 1 : 0);
        }
        // all from the lesser to the greater, or all the other way, never go round
        asks("17 ten, none turned", FILLED, x -> x.circled(0), 0);
        asks("17 ten, all turned", FILLED, x -> x.circled(1023), 0);
        asks("17 four, turned round one way", () -> net("points 4;round plain 1 0 3"), x -> x.circled(8), 1);
        asks("17 four, turned round the other way", () -> net("points 4;round plain 1 0 3"), x -> x.circled(7), 1);
        asks("17 four, but for one", () -> net("points 4;round plain 1 0 3"), x -> x.circled(9), 0);
    }

    private static void rateRefusals() {
        for (int part = 0; part < 2; part++) {
            int which = part;
            refuses("18 CIRCLED", THREE, x -> x.rate(4, which), STATE);
            refuses("18 no LINES", NO_LINES, x -> x.rate(0, which), NONE);
            refuses("18 no POINTS", EMPTY, x -> x.rate(0, which), NONE);
            refuses("18 BAD before NONE", EMPTY, x -> x.rate(1, which), BAD);
        }
        refuses("18 BAD part before STATE", THREE, x -> x.rate(4, 2), BAD);
        refuses("18 BAD part before NONE", EMPTY, x -> x.rate(0, -1), BAD);
        refuses("19 CIRCLED", THREE, x -> x.worst(3), STATE);
        refuses("19 no LINES", NO_LINES, x -> x.worst(0), NONE);
        refuses("19 no POINTS", EMPTY, x -> x.worst(0), NONE);
        refuses("19 BAD before NONE", EMPTY, x -> x.worst(1), BAD);
    }

    private static void ratesAtTheirEdges() {
        for (int t = 0; t < 2; t++) {
            int turn = t;
            asks("18 one alone, above", ONE, x -> x.rate(turn, 0), 6);
            asks("18 one alone, below", ONE, x -> x.rate(turn, 1), 1);
        }
        // the fewer of both ways: 1 of 5 by TURN 0, 2 of 5 by TURN 1; 10 of 2 is told as 5 of 1
        asks("18 fewer is one", FIVE, x -> x.rate(0, 0) * 10 + x.rate(0, 1), 51);
        asks("18 fewer is one, all turned", FIVE, x -> x.rate(31, 0) * 10 + x.rate(31, 1), 51);
        asks("18 fewer is two", FIVE, x -> x.rate(1, 0) * 10 + x.rate(1, 1), 52);
        asks("18 in lowest terms", () -> net("points 5;round wide 1 0 4"), x -> x.rate(1, 0) * 10 + x.rate(1, 1), 51);
        asks("18 six, three each way", () -> net("points 6;round plain 1 0 5"), x -> x.rate(10, 0) * 10 + x.rate(10, 1), 21);
    }

    private static void worstIsTheLeast() {
        asks("19 one alone", ONE, x -> x.worst(0), 1);
        // a LINE there and back has 2 of 1, as has the RING of four with two each way
        Scene four = () -> net("points 4;round plain 1 0 3");
        asks("19 like RATES: the least set", four, x -> x.worst(1), 1);
        asks("19 a greater RATE: the greater set", four, x -> x.worst(0), 15);
        asks("19 the last LINE alone", () -> net("points 6;round plain 1 0 3;line wide 3 4 5"), x -> x.worst(0), 16);
    }

    private static void turns() {
        for (Scene scene : new Scene[] {EMPTY, NO_LINES, ONE, SOME, FILLED}) bounds("20 what", scene, (x, w) -> x.turns(w), 0, 2, BAD);
        for (Scene scene : new Scene[] {EMPTY, NO_LINES}) {
            asks("20 no LINES: the empty TURN", scene, x -> x.turns(0), 1);
            refuses("20 no LINES: none with RATIO", scene, x -> x.turns(1), NONE);
            refuses("20 no LINES: no least", scene, x -> x.turns(2), NONE);
            refuses("20 BAD before NONE", scene, x -> x.turns(3), BAD);
        }
        asks("20 one LINE, both", ONE, x -> x.turns(0), 2);
        asks("20 one LINE, both with RATIO", ONE, x -> x.turns(1), 2);
        asks("20 one LINE, the least", ONE, x -> x.turns(2), 0);
        asks("20 three: all but two", THREE, x -> x.turns(0), 6);
        // of five POINTS with all LINES each order gives one
        asks("20 ten LINES", () -> net(FIVE_PLAIN), x -> x.turns(0), 120);
        asks("20 ten LINES that don't touch a RING", () -> net("points 6;round plain 1 0 5"), x -> x.turns(0), 62);
        asks("20 the least isn't the empty one", FIVE, x -> x.turns(2), 1);
    }

    private static void binds() {
        asks("21 no POINTS", EMPTY, x -> x.binds(), 0);
        asks("21 no LINES", NO_LINES, x -> x.binds(), 0);
        asks("21 one: without it RATIO is 1", ONE, x -> x.binds(), 1);
        asks("21 two alike: neither", () -> net("points 3;line plain 1 0 1;line plain 1 1 2"), x -> x.binds(), 0);
        asks("21 two unlike: the farther", () -> net("points 3;line plain 1 0 1;line plain 2 1 2"), x -> x.binds(), 2);
        asks("21 all of three", THREE, x -> x.binds(), 7);
        asks("21 six round bind nothing", () -> net("points 6;round plain 1 0 5"), x -> x.binds(), 0);
        asks("21 all of five", FIVE, x -> x.binds(), 31);
        asks("21 all ten", () -> net(FIVE_PLAIN), x -> x.binds(), 1023);
    }

    private static void roomBounds() {
        for (Scene scene : new Scene[] {EMPTY, NO_LINES, ONE, THREE, SOME, FILLED}) {
            bounds("22 l", scene, (x, l) -> x.room(l), 0, scene.make().count(1) - 1, BAD);
        }
    }

    private static void roomAtItsEdges() {
        asks("22 none", ONE, x -> x.room(0), 0);
        for (int more = 0; more <= 3; more++) {
            int last = 1 + more;
            Scene scene = () -> net("points 6;line span 1 0 " + last + ";line plain 1 4 5");
            asks("22 just as far as the farthest", scene, x -> x.room(1), last - 1);
            asks("22 the farthest itself", scene, x -> x.room(0), 0);
        }
        // there and back is 2 more at each step: within 3 there is room for none, within 16 for 7
        asks("22 a half step is none", () -> net("points 5;round plain 1 0 2;line plain 1 3 4"), x -> x.room(3), 0);
        Scene wide = () -> net("points 6;round wide 3 0 3;line wide 3 0 2;line wide 3 1 3;line plain 1 4 5");
        asks("22 the most there is", wide, x -> x.room(6), 7);
        asks("22 five round, none", FIVE, x -> x.room(4), 0);
        asks("22 a LINE with no RING but its own", () -> net("points 6;round wide 1 0 4;line plain 1 4 5"), x -> x.room(5), 1);
    }

    /** What was reckoned for a net that has changed since must not count: three round, then three that don't go round. */
    private static void ringsThatAreGone() {
        CircleTints x = net("points 4;round plain 2 0 2");
        due("15 three round", x.rings(), 4);
        due("12 three round", x.ratio(0), 6);
        x.drop(2);
        x.line(0, 1, 2, 3);
        due("22 the farthest", x.room(0), 0);
        due("22 the last", x.room(2), 1);
        due("15 three alone", x.rings(), 3);
        due("16 no RING", x.ring(3, 0), NONE);
        due("17 never", x.circled(4), 0);
        due("19 the first", x.worst(4), 1);
        due("20 all TURNS", x.turns(0), 8);
        due("21 none by itself", x.binds(), 0);
        fill(x, 0, 0, 0, 2, 4, 0);
        due("25 no TIGHT RING", x.tight(0, 6, 1, 0), NONE);
    }
}
