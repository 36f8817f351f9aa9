/** Boundary cases of promises 9 to 14: colourings, RATIO, WHOLE. The number before a row's name is the promise. */
public final class ColouringEdgesTest extends Edge {
    private static final String FIVE_WIDE = "points 5;round wide 3 0 4;round wide 3 0 3;round wide 3 0 2;"
        + "round wide 3 1 4;round wide 3 2 4;line wide 3 1 3";

    public static void main(String[] args) {
        measures();
        oneLineJustFits();
        ratioJustFits();
        noLinesBindNothing();
        listsAtTheirEdges();
        listsNotAsked();
        placeRefusals();
        theFirst();
        waysBounds();
        waysAtTheirEdges();
        ratio();
        whole();
        off();
        end();
    }

    private interface Measured {
        long on(CircleTints x, int p, int q, int lists);
    }

    /** p 1 to 40, by LISTS 1 to 16; q 1 to 6; lists 0, 1. */
    private static void dueMeasures(String what, Scene scene, Measured call) {
        bounds(what + " p", scene, (x, v) -> call.on(x, v, 1, 0), 1, 40, BAD);
        bounds(what + " p by LISTS", scene, (x, v) -> call.on(x, v, 1, 1), 1, 16, BAD);
        bounds(what + " q", scene, (x, v) -> call.on(x, 16, v, 0), 1, 6, BAD);
        bounds(what + " q by LISTS", scene, (x, v) -> call.on(x, 16, v, 1), 1, 6, BAD);
        bounds(what + " lists", scene, (x, v) -> call.on(x, 16, 1, v), 0, 1, BAD);
        refuses(what + " 40 by LISTS", scene, x -> call.on(x, 40, 1, 1), BAD);
        refuses(what + " all wrong", scene, x -> call.on(x, 0, 0, 2), BAD);
    }

    private static void measures() {
        for (Scene scene : SCENES) {
            dueMeasures("9", scene, (x, p, q, lists) -> x.fits(p, q, lists));
            if (scene != EMPTY) dueMeasures("10", scene, (x, p, q, lists) -> x.place(p, q, lists, 0));
            dueMeasures("42", scene, (x, p, q, lists) -> x.paint(3, p, q, lists));
        }
    }

    private static void oneLineJustFits() {
        for (int gap = 1; gap <= 5; gap++) {
            int last = gap;
            Scene scene = () -> net("points 6;line span 1 0 " + last);
            for (int q = 1; q <= 6; q++) {
                int far = q * gap;
                int forOne = q;
                if (2 * far <= 40) {
                    asks("9 just so far, both ways round", scene, x -> x.fits(2 * far, forOne, 0), 1);
                    asks("10 just opposite", scene, x -> x.place(2 * far, forOne, 0, last), far);
                }
                if (2 * far <= 41) {
                    asks("9 one too few", scene, x -> x.fits(2 * far - 1, forOne, 0), 0);
                    refuses("10 one too few", scene, x -> x.place(2 * far - 1, forOne, 0, last), NONE);
                    refuses("42 one too few", scene, x -> x.paint(0, 2 * far - 1, forOne, 0), NONE);
                }
                if (2 * far > 40) asks("9 not by 40", scene, x -> x.fits(40, forOne, 0), 0);
            }
        }
    }

    /** There is a colouring by p, q from p of q as much as RATIO on, and none by one place fewer. */
    private static void ratioJustFits() {
        for (int seed = 1; seed <= 250; seed++) {
            CircleTints x = new CircleTints();
            x.seed(seed * 7919);
            if (x.deal(2 + seed % 5, 3 + seed % 8) == 0) continue;
            int above = x.ratio(0), below = x.ratio(1);
            for (int q = 1; q <= 6; q++) {
                int least = (above * q + below - 1) / below;
                if (least <= 40) due("9 RATIO or just more, net " + seed, x.fits(least, q, 0), 1);
                if (least <= 41) due("9 less than RATIO, net " + seed, x.fits(least - 1, q, 0), 0);
                if (least <= 16) due("9 by LISTS of all, net " + seed, x.fits(least, q, 1), 1);
                if (least <= 17) due("9 by LISTS, less than RATIO, net " + seed, x.fits(least - 1, q, 1), 0);
                if (least <= 8) due("11 some, net " + seed, Math.min(1, x.ways(least, q, 0)), 1);
                if (least <= 9) due("11 none, net " + seed, x.ways(least - 1, q, 0), 0);
                if (q == 1) due("13 WHOLE, net " + seed, x.whole(), least);
            }
        }
    }

    private static void noLinesBindNothing() {
        for (int n = 1; n <= 6; n++) {
            int points = n;
            Scene scene = () -> net("points " + points);
            for (int q = 1; q <= 6; q++) {
                int forOne = q;
                asks("9 one place for all", scene, x -> x.fits(1, forOne, 0), 1);
                asks("10 one place for all", scene, x -> x.place(1, forOne, 1, points - 1), 0);
                asks("11 one place for all", scene, x -> x.ways(1, forOne, 0), 1);
            }
        }
    }

    private static void listsAtTheirEdges() {
        for (int p = 1; p <= 16; p++) {
            int places = p;
            Scene last = () -> net("points 2;list 1 " + (places - 1) + " 39");
            asks("9 the last place", last, x -> x.fits(places, 1, 1), 1);
            asks("10 the last place", last, x -> x.place(places, 1, 1, 1), places - 1);
            asks("10 another POINT", last, x -> x.place(places, 1, 1, 0), 0);
            Scene beyond = () -> net("points 2;list 1 " + places + " 39");
            asks("9 a place beyond", beyond, x -> x.fits(places, 1, 1), 0);
            refuses("10 a place beyond", beyond, x -> x.place(places, 1, 1, 0), NONE);
            refuses("42 a place beyond", beyond, x -> x.paint(3, places, 1, 1), NONE);
            if (p <= 8) asks("11 the last place", last, x -> x.ways(places, 1, 1), places);
            if (p <= 8) asks("11 a place beyond", beyond, x -> x.ways(places, 1, 1), 0);
        }
        Scene none = () -> {
            CircleTints x = net("points 3");
            x.list(1, 0);
            return x;
        };
        asks("9 an empty LIST", none, x -> x.fits(16, 1, 1), 0);
        refuses("10 an empty LIST", none, x -> x.place(16, 1, 1, 2), NONE);
        asks("11 an empty LIST", none, x -> x.ways(8, 1, 1), 0);
        refuses("42 an empty LIST", none, x -> x.paint(0, 16, 1, 1), NONE);
    }

    private static void listsNotAsked() {
        Scene none = () -> {
            CircleTints x = net("points 2;line plain 1 0 1");
            x.list(0, 0);
            x.list(1, 1L << 39);
            return x;
        };
        asks("9 LISTS not asked", none, x -> x.fits(2, 1, 0), 1);
        asks("10 LISTS not asked", none, x -> x.place(2, 1, 0, 1), 1);
        asks("11 LISTS not asked", none, x -> x.ways(2, 1, 0), 2);
        asks("12 RATIO goes by no LIST", none, x -> x.ratio(0), 2);
        asks("13 WHOLE goes by no LIST", none, x -> x.whole(), 2);
    }

    private static void placeRefusals() {
        bounds("10 point", SOME, (x, v) -> x.place(9, 1, 0, v), 0, 3, BAD);
        bounds("10 point of six", FILLED, (x, v) -> x.place(10, 1, 0, v), 0, 5, BAD);
        refuses("10 no POINTS", EMPTY, x -> x.place(9, 1, 0, 0), BAD);
        bounds("10 BAD before NONE", SOME, (x, v) -> x.place(8, 1, 0, v), 0, 3, BAD);
        refuses("10 NONE", SOME, x -> x.place(8, 1, 0, 3), NONE);
        refuses("10 BAD p before NONE", SOME, x -> x.place(0, 1, 0, 0), BAD);
    }

    private static void theFirst() {
        // least where they are unlike first: POINT 0 has 0 though by it the others must stand farther
        Scene scene = () -> net("points 3;line plain 1 0 1;line plain 2 0 2;list 0 0 1;list 1 1 9;list 2 3 9");
        asks("10 POINT 0", scene, x -> x.place(5, 1, 1, 0), 0);
        asks("10 POINT 1", scene, x -> x.place(5, 1, 1, 1), 1);
        asks("10 POINT 2", scene, x -> x.place(5, 1, 1, 2), 3);
        Scene five = () -> net("points 5;round plain 1 0 4");
        int[] tight = {0, 6, 12, 3, 9};
        int[] loose = {0, 6, 0, 6, 12};
        for (int p = 0; p < 5; p++) {
            int point = p;
            asks("10 just RATIO", five, x -> x.place(15, 6, 0, point), tight[point]);
            asks("10 with room", five, x -> x.place(31, 6, 0, point), loose[point]);
        }
    }

    private static void waysBounds() {
        for (Scene scene : SCENES) {
            for (int lists = 0; lists < 2; lists++) {
                int by = lists;
                bounds("11 p", scene, (x, v) -> x.ways(v, 1, by), 1, 8, BAD);
                bounds("11 q", scene, (x, v) -> x.ways(8, v, by), 1, 6, BAD);
            }
            bounds("11 lists", scene, (x, v) -> x.ways(8, 1, v), 0, 1, BAD);
        }
    }

    private static void waysAtTheirEdges() {
        int[] powers = {1, 64, 729, 4096, 15625, 46656, 117649, 262144};
        for (int p = 1; p <= 8; p++) {
            int places = p;
            asks("11 six POINTS, no LINES", () -> net("points 6"), x -> x.ways(places, 6, 0), powers[p - 1]);
            asks("11 six POINTS, no LINES, by LISTS", () -> net("points 6"), x -> x.ways(places, 6, 1), powers[p - 1]);
        }
        for (int gap = 1; gap <= 4; gap++) {
            int last = gap;
            Scene scene = () -> net("points 6;line span 1 0 " + last);
            asks("11 just opposite", scene, x -> x.ways(2 * last, 1, 0), powers[2 * last - 1] / (2 * last));
            asks("11 one too few", scene, x -> x.ways(2 * last - 1, 1, 0), 0);
        }
        CircleTints far = net("points 3;round plain 1 0 2;list 0 15 15");
        due("10 a place beyond those of ways()", far.place(16, 1, 1, 0), 15);
        due("11 goes by its own places", far.ways(3, 1, 0), 6);
        asks("11 never by 8", () -> net("points 6;line span 1 0 5"), x -> x.ways(8, 1, 0), 0);
        asks("11 never by 8 for 6", () -> net("points 2;line plain 1 0 1"), x -> x.ways(8, 6, 0), 0);
        asks("11 by 8 for 4", () -> net("points 2;line plain 1 0 1"), x -> x.ways(8, 4, 0), 8);
        asks("11 by 8 for 5", () -> net("points 2;line plain 1 0 1"), x -> x.ways(8, 5, 0), 0);
    }

    private static void ratio() {
        for (Scene scene : SCENES) bounds("12 part", scene, (x, v) -> x.ratio(v), 0, 1, BAD);
        for (int n = 1; n <= 6; n++) {
            int points = n;
            asks("12 no LINES, above", () -> net("points " + points), x -> x.ratio(0), 1);
            asks("12 no LINES, below", () -> net("points " + points), x -> x.ratio(1), 1);
        }
        asks("12 the greatest, above", () -> net(FIVE_WIDE), x -> x.ratio(0), 20);
        asks("12 the greatest, below", () -> net(FIVE_WIDE), x -> x.ratio(1), 1);
        asks("12 the least with LINES", () -> net("points 2;line plain 1 0 1"), x -> x.ratio(0), 2);
        Scene two = () -> net("points 5;round wide 1 0 4");
        asks("12 ten of two, in lowest terms, above", two, x -> x.ratio(0), 5);
        asks("12 ten of two, in lowest terms, below", two, x -> x.ratio(1), 1);
    }

    private static void whole() {
        refuses("13 no POINTS", EMPTY, x -> x.whole(), NONE);
        for (int n = 1; n <= 6; n++) {
            int points = n;
            asks("13 no LINES", () -> net("points " + points), x -> x.whole(), 1);
        }
        asks("13 one LINE", () -> net("points 2;line plain 1 0 1"), x -> x.whole(), 2);
        asks("13 five, all wide", () -> net(FIVE_WIDE), x -> x.whole(), 20);
        asks("13 more by what is cut", () -> net("points 5;round plain 1 0 4"), x -> x.whole(), 3);
    }

    private static void off() {
        for (Scene scene : SCENES) bounds("14 part", scene, (x, v) -> x.off(v), 0, 1, BAD);
        for (int part = 0; part < 2; part++) {
            int which = part;
            refuses("14 no POINTS", EMPTY, x -> x.off(which), NONE);
            refuses("14 no LINES", () -> net("points 6"), x -> x.off(which), NONE);
            asks("14 0 of 1", () -> net("points 2;line plain 3 0 1"), x -> x.off(which), which);
            asks("14 0 of 1, the greatest", () -> net(FIVE_WIDE), x -> x.off(which), which);
            asks("14 half", () -> net("points 5;round plain 1 0 4"), x -> x.off(which), 1 + which);
        }
        refuses("14 BAD before NONE", EMPTY, x -> x.off(2), BAD);
        refuses("14 BAD below before NONE", EMPTY, x -> x.off(-1), BAD);
    }
}
