/** Boundary cases of promises 1 to 8: a new object, the net. The number before a row's name is the promise. */
public final class NetEdgesTest extends Edge {
    public static void main(String[] args) {
        aNewObject();
        nothingHeldAtFirst();
        points();
        newPoints();
        lineBounds();
        lineRefusals();
        tenLines();
        linesOfFewPoints();
        lineOf();
        gaps();
        change();
        drop();
        list();
        count();
        end();
    }

    private static void ofNew(String what, Call call, long answer) {
        due("1 " + what, call.on(new CircleTints()), answer);
    }

    private static void aNewObject() {
        ofNew("points", x -> x.points(1), 1);
        ofNew("line", x -> x.line(0, 1, 0, 1), BAD);
        ofNew("lineOf", x -> x.lineOf(0, 0), BAD);
        ofNew("change", x -> x.change(0, 0, 0), BAD);
        ofNew("drop", x -> x.drop(0), BAD);
        ofNew("list", x -> x.list(0, 0), NO + BAD);
        ofNew("fits", x -> x.fits(1, 6, 0), 1);
        ofNew("fits by lists", x -> x.fits(1, 6, 1), 1);
        ofNew("place", x -> x.place(1, 1, 0, 0), BAD);
        ofNew("ways", x -> x.ways(8, 6, 0), 1);
        ofNew("ways by lists", x -> x.ways(1, 1, 1), 1);
        ofNew("ratio", x -> x.ratio(0) * 10 + x.ratio(1), 11);
        ofNew("whole", x -> x.whole(), NONE);
        ofNew("off", x -> x.off(0), NONE);
        ofNew("rings", x -> x.rings(), 0);
        ofNew("ring", x -> x.ring(0, 0), NONE);
        ofNew("circled", x -> x.circled(0), 0);
        ofNew("rate", x -> x.rate(0, 0), NONE);
        ofNew("worst", x -> x.worst(0), NONE);
        ofNew("turns", x -> x.turns(0), 1);
        ofNew("turns with ratio", x -> x.turns(1), NONE);
        ofNew("least turn", x -> x.turns(2), NONE);
        ofNew("binds", x -> x.binds(), 0);
        ofNew("room", x -> x.room(0), BAD);
        ofNew("next", x -> x.next(1, 2, 3, 0, 1), 3);
        ofNew("wipe", x -> x.wipe(), 0);
        ofNew("text", x -> x.text(), -100);
        ofNew("seed", x -> x.seed(9), 1);
        ofNew("deal", x -> x.deal(1, 10), 0);
        ofNew("paint", x -> x.paint(0, 1, 1, 0), 0);
        ofNew("image", x -> x.image(), 0);
        ofNew("back", x -> x.back(), STATE);
        for (int w = 0; w < 5; w++) {
            int what = w;
            ofNew("count " + w, x -> x.count(what), what == 3 ? 1 : 0);
        }
    }

    private static void nothingHeldAtFirst() {
        for (int i = 0; i < 4; i++) {
            int n = i;
            for (int w = 0; w < 7; w++) {
                int what = w;
                ofNew("told", x -> x.told(n, what), NO + MISSING);
            }
            ofNew("does", x -> x.does(n, 0, n), MISSING);
            ofNew("compare", x -> x.compare(n, n), MISSING);
            ofNew("hold a line", x -> x.hold(n, 0, 0), BAD);
            ofNew("hold a row", x -> x.hold(0, 1, n), MISSING);
            ofNew("judge", x -> x.judge(n, 1, 1), MISSING);
            ofNew("arcs", x -> x.arcs(n, 1, 1), MISSING);
            ofNew("tight", x -> x.tight(n, 1, 1, 0), MISSING);
            ofNew("rounds", x -> x.rounds(n, 1, 1, 0), MISSING);
            ofNew("write", x -> x.write(n, 0, 0), MISSING);
            ofNew("item", x -> x.item(n, 0), NO + MISSING);
            ofNew("copy", x -> x.copy(n, 0, n, 0, 0), MISSING);
        }
    }

    private static void points() {
        for (Scene scene : SCENES) bounds("2 n", scene, (x, n) -> x.points(n), 1, 6, BAD);
        for (int have = 0; have <= 6; have++) {
            int were = have;
            Scene scene = () -> {
                CircleTints x = new CircleTints();
                if (were > 0) x.points(were);
                return x;
            };
            for (int n = 1; n <= 6; n++) {
                int more = n;
                if (have + n <= 6) due("2 " + n + " behind " + have, scene.make().points(n), have + n);
                else refuses("2 " + n + " behind " + have, scene, x -> x.points(more), FULL);
            }
        }
    }

    private static void newPoints() {
        CircleTints x = SOME.make();
        due("2 two more", x.points(2), 6);
        due("2 no LINES come", x.count(1), 5);
        due("2 z stays", x.count(3), 77);
        due("2 its LIST", x.list(5, 0), ALL);
        due("2 a LIST there was", x.list(3, 0), 1L << 39 | 3);
    }

    private static void lineBounds() {
        bounds("3 kind", SOME, (x, v) -> x.line(v, 1, 1, 3), 0, 4, BAD);
        bounds("3 figure", SOME, (x, v) -> x.line(0, v, 1, 3), 1, 3, BAD);
        bounds("3 a", SOME, (x, v) -> x.line(0, 1, v, v == 3 ? 1 : 3), 0, 3, BAD);
        bounds("3 b", SOME, (x, v) -> x.line(0, 1, v == 3 ? 1 : 3, v), 0, 3, BAD);
        bounds("3 kind, when full", FILLED, (x, v) -> x.line(v, 1, 4, 5), 0, 4, BAD);
        bounds("3 figure, when full", FILLED, (x, v) -> x.line(0, v, 4, 5), 1, 3, BAD);
        bounds("3 a, when full", FILLED, (x, v) -> x.line(0, 1, v, v == 5 ? 0 : 5), 0, 5, BAD);
        bounds("3 b, when full", FILLED, (x, v) -> x.line(0, 1, v == 5 ? 0 : 5, v), 0, 5, BAD);
        for (int p = -1; p <= 4; p++) {
            int point = p;
            refuses("3 one and the same", SOME, x -> x.line(0, 1, point, point), BAD);
        }
    }

    private static void lineRefusals() {
        refuses("3 these have one", SOME, x -> x.line(0, 1, 0, 1), STATE);
        refuses("3 these have one, the other way", SOME, x -> x.line(3, 3, 1, 0), STATE);
        refuses("3 FULL", FILLED, x -> x.line(0, 1, 5, 0), FULL);
        refuses("3 STATE before FULL", FILLED, x -> x.line(0, 1, 0, 1), STATE);
        refuses("3 BAD kind before STATE", SOME, x -> x.line(5, 1, 0, 1), BAD);
        refuses("3 BAD figure before STATE", SOME, x -> x.line(0, 0, 0, 1), BAD);
        refuses("3 BAD before STATE and FULL", FILLED, x -> x.line(-1, 1, 0, 1), BAD);
        refuses("3 BAD before FULL", FILLED, x -> x.line(0, 1, 5, 5), BAD);
    }

    private static void tenLines() {
        CircleTints x = net("points 6");
        int lines = 0;
        for (int a = 5; a > 0 && lines < 10; a--) {
            for (int b = 0; b < a && lines < 10; b++) due("3 number", x.line(1, 3, a, b), lines++);
        }
        due("3 the eleventh", x.line(1, 3, 0, 1), FULL);
        due("3 ten", x.count(1), 10);
        due("6 room again", x.drop(9), 9);
        due("3 the tenth again", x.line(1, 3, 1, 0), 9);
        due("3 and no more", x.line(1, 3, 2, 0), FULL);
    }

    private static void linesOfFewPoints() {
        CircleTints x = net("points 1");
        due("3 one POINT alone", x.line(0, 1, 0, 0), BAD);
        due("3 no second one", x.line(0, 1, 0, 1), BAD);
        x.points(1);
        due("3 two POINTS", x.line(0, 1, 1, 0), 0);
        due("4 lesser first", x.lineOf(0, 3) * 10 + x.lineOf(0, 4), 1);
        due("3 no third POINT", x.line(0, 1, 2, 0), BAD);
    }

    private static void lineOf() {
        for (int w = 0; w < 5; w++) {
            int what = w;
            bounds("4 l", SOME, (x, l) -> x.lineOf(l, what), 0, 4, BAD);
            bounds("4 l, ten", FILLED, (x, l) -> x.lineOf(l, what), 0, 9, BAD);
            refuses("4 no LINES", EMPTY, x -> x.lineOf(0, what), BAD);
        }
        for (int l = 0; l < 10; l++) {
            int line = l;
            bounds("4 what", FILLED, (x, w) -> x.lineOf(line, w), 0, 4, BAD);
        }
        refuses("4 both", SOME, x -> x.lineOf(5, 5), BAD);
    }

    private static int gapDue(int kind, int figure, int a, int b) {
        int[] plain = {0, 1, 2, 3};
        int[] wide = {0, 2, 3, 4};
        int[] thin = {0, 1, 1, 2};
        switch (kind) {
            case 0: return plain[figure];
            case 1: return wide[figure];
            case 2: return thin[figure];
            case 3: return a > b ? a - b : b - a;
            default: return (a + b & 1) == 0 ? 2 : figure;
        }
    }

    private static void gaps() {
        CircleTints x = net("points 6");
        for (int a = 0; a < 6; a++) {
            for (int b = 0; b < 6; b++) {
                for (int w = 0; w < 15 && a != b; w++) {
                    int gap = gapDue(w % 5, 1 + w / 5, a, b);
                    String what = "GAP of kind " + w % 5 + ", figure " + (1 + w / 5) + ", " + a + " and " + b;
                    due("3 a LINE", x.line(w % 5, 1 + w / 5, a, b), 0);
                    due("4 " + what, x.lineOf(0, 2), gap);
                    due("8 " + what, x.count(2), gap);
                    x.hold(0, 0, 0);
                    due("32 " + what, x.told(0, 4), gap);
                    due("16 " + what + ", there and back", x.ring(0, 2), 2 * gap);
                    x.drop(0);
                }
            }
        }
    }

    private static void change() {
        for (int l = 0; l < 5; l++) {
            int line = l;
            bounds("5 kind", SOME, (x, v) -> x.change(line, 0, v), 0, 4, BAD);
            bounds("5 figure", SOME, (x, v) -> x.change(line, 1, v), 1, 3, BAD);
            bounds("5 what", SOME, (x, w) -> x.change(line, w, 1), 0, 1, BAD);
        }
        bounds("5 l", SOME, (x, l) -> x.change(l, 0, 1), 0, 4, BAD);
        bounds("5 l, ten", FILLED, (x, l) -> x.change(l, 1, 1), 0, 9, BAD);
        refuses("5 no LINES", EMPTY, x -> x.change(0, 0, 0), BAD);
        CircleTints x = SOME.make();
        due("5 what it was", x.change(0, 0, 4), 1);
        due("5 what it is", x.change(0, 0, 4), 4);
        due("5 figure is another thing", x.change(0, 1, 3), 2);
        due("5 figure is so", x.lineOf(0, 1), 3);
        due("5 kind stays", x.lineOf(0, 0), 4);
        due("5 POINTS stay", x.lineOf(0, 3) * 10 + x.lineOf(0, 4), 2);
        due("5 GAP goes with it", x.lineOf(0, 2), 2);
    }

    private static void drop() {
        bounds("6 l", SOME, (x, l) -> x.drop(l), 0, 4, BAD);
        bounds("6 l, ten", FILLED, (x, l) -> x.drop(l), 0, 9, BAD);
        refuses("6 no LINES", EMPTY, x -> x.drop(0), BAD);
        refuses("6 POINTS, but no LINES", () -> net("points 6"), x -> x.drop(0), BAD);
        for (int gone = 0; gone < 10; gone++) {
            CircleTints was = FILLED.make();
            CircleTints x = FILLED.make();
            due("6 how many", x.drop(gone), 9);
            for (int l = 0; l < 9; l++) {
                for (int w = 0; w < 5; w++) due("6 those behind are 1 less", x.lineOf(l, w), was.lineOf(l < gone ? l : l + 1, w));
            }
            due("6 no tenth", x.lineOf(9, 0), BAD);
            due("6 the two may have one again", x.line(0, 1, was.lineOf(gone, 3), was.lineOf(gone, 4)), 9);
        }
        CircleTints x = net("points 2;line plain 1 0 1");
        due("6 the only one", x.drop(0), 0);
        due("6 none left", x.drop(0), BAD);
        due("6 POINTS stay", x.count(0), 2);
    }

    private static void list() {
        for (Scene scene : SCENES) {
            bounds("7 p", scene, (x, p) -> x.list(p, 1), 0, scene.make().count(0) - 1, NO + BAD);
        }
        for (int bit = 40; bit < 64; bit++) {
            long beyond = 1L << bit;
            refuses("7 bit " + bit, SOME, x -> x.list(0, beyond), NO + BAD);
            refuses("7 bit " + bit + " beside others", SOME, x -> x.list(3, beyond | ALL), NO + BAD);
        }
        refuses("7 all bits", SOME, x -> x.list(0, -1), NO + BAD);
        refuses("7 no such POINT, a bit beyond 39", SOME, x -> x.list(4, 1L << 40), NO + BAD);
        CircleTints x = net("points 6");
        long was = ALL;
        for (int bit = 0; bit < 40; bit++) {
            due("7 bit " + bit, x.list(5, 1L << bit), was);
            was = 1L << bit;
        }
        due("7 the empty set", x.list(5, 0), was);
        due("7 was empty", x.list(5, ALL), 0);
        due("7 all 40", x.list(5, ALL), ALL);
        due("7 of that POINT alone", x.list(4, 0), ALL);
    }

    private static void count() {
        for (Scene scene : SCENES) bounds("8 what", scene, (x, w) -> x.count(w), 0, 4, BAD);
        int[] dues = {6, 10, 23, 506587215, 120};
        for (int w = 0; w < 5; w++) {
            int what = w;
            asks("8 of what is full", FILLED, x -> x.count(what), dues[w]);
        }
        CircleTints x = net("points 6");
        for (int b = 1; b < 5; b++) for (int a = 0; a < b; a++) x.line(1, 3, a, b);
        due("8 GAPS of ten wide ones", x.count(2), 40);
        x.seed(MIN);
        due("8 z is any int", x.count(3), MIN);
    }
}
