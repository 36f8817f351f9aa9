/** Boundary cases of promises 36 to 44: draws, sheets, the image. The number before a row's name is the promise. */
public final class SheetEdgesTest extends Edge {
    // 0 three ints, 1 three longs, 2 no ints, 3 missing
    private static final Scene ROWS = () -> {
        CircleTints x = new CircleTints();
        fill(x, 0, 0, 1, 2, 3);
        fill(x, 1, 1, LEAST, 0, MOST);
        x.sheet(2, 0, 0);
        return x;
    };

    public static void main(String[] args) {
        seed();
        dealBounds();
        dealAtItsEdges();
        dealByEachSeed();
        dealLeavesTheRest();
        sheetBounds();
        sheetAtItsEdges();
        writeRefusals();
        writeAtItsEdges();
        itemRefusals();
        copyRefusals();
        copyAtItsEdges();
        copyOverItself();
        paintRefusals();
        paintTruly();
        image();
        back();
        end();
    }

    // ---- draws

    private static void seed() {
        CircleTints x = new CircleTints();
        int was = 1;
        for (int v : new int[] {0, -1, MIN, MAX, 1, 12345}) {
            due("36 what it was", x.seed(v), was);
            due("8 z", x.count(3), v);
            was = v;
        }
        x = SOME.make();
        due("36 what it was", x.seed(0), 77);
        due("36 the net stays", x.count(0) * 10 + x.count(1), 45);
    }

    private static void dealBounds() {
        for (Scene scene : SCENES) {
            bounds("37 n", scene, (x, n) -> x.deal(n, 5), 1, 6, BAD);
            bounds("37 odds", scene, (x, v) -> x.deal(6, v), 0, 10, BAD);
            refuses("37 both", scene, x -> x.deal(0, 11), BAD);
        }
    }

    private static int drawn(int z) {
        return z * 1103515245 + 12345;
    }

    private static void dealAtItsEdges() {
        int[] pairs = {0, 0, 1, 3, 6, 10, 15};
        for (int n = 1; n <= 6; n++) {
            CircleTints x = SOME.make();
            x.seed(MAX);
            int z = MAX;
            for (int i = 0; i < pairs[n]; i++) z = drawn(z);
            due("37 odds 0", x.deal(n, 0), 0);
            due("37 a DRAW for each two", x.count(3), z);
            due("37 POINTS", x.count(0), n);
            x.seed(MIN);
            z = MIN;
            int lines = Math.min(10, pairs[n]);
            for (int i = 0; i < 3 * lines; i++) z = drawn(z);
            due("37 odds 10", x.deal(n, 10), lines);
            due("37 three DRAWS for each LINE, none without room", x.count(3), z);
            due("37 POINTS", x.count(0), n);
            for (int p = 0; p < n; p++) due("37 LISTS as at first", x.list(p, 0), ALL);
        }
    }

    private static void dealByEachSeed() {
        for (int seed : new int[] {0, 1, -1, MIN, MAX, 0xffff, 0x10000, 0x7fff0000, 506587215, -987654321}) {
            for (int odds = 0; odds <= 10; odds++) {
                CircleTints x = new CircleTints();
                x.seed(seed);
                int got = x.deal(6, odds);
                int z = seed, l = 0;
                for (int high = 1; high < 6; high++) {
                    for (int low = 0; low < high && l < 10; low++) {
                        z = drawn(z);
                        if ((z >>> 16) % 10 >= odds) continue;
                        z = drawn(z);
                        due("37 KIND", x.lineOf(l, 0), (z >>> 16) % 5);
                        z = drawn(z);
                        due("37 FIGURE", x.lineOf(l, 1), 1 + (z >>> 16) % 3);
                        due("37 POINTS of a LINE", x.lineOf(l, 3) * 10 + x.lineOf(l, 4), low * 10 + high);
                        l++;
                    }
                }
                due("37 how many LINES", got, l);
                due("37 z", x.count(3), z);
            }
        }
    }

    private static void dealLeavesTheRest() {
        CircleTints x = SOME.make();
        x.deal(2, 0);
        due("37 no LINES there were", x.count(1), 0);
        due("37 holds stay", x.told(1, 4), 3);
        due("37 sheets stay", x.item(1, 0), MOST);
        due("37 THE TAPE stays", x.count(4), 19);
        due("37 THE IMAGE stays", x.back(), 1);
        due("44 its POINTS", x.count(0), 3);
        due("44 its z", x.count(3), -5);
    }

    // ---- sheets

    private static void sheetBounds() {
        for (Scene scene : SCENES) {
            for (int sort = -1; sort <= 1; sort++) {
                int its = sort;
                bounds("38 s", scene, (x, s) -> x.sheet(s, its, 3), 0, 3, BAD);
            }
            bounds("38 sort", scene, (x, sort) -> x.sheet(0, sort, 3), -1, 1, BAD);
            for (int sort = 0; sort <= 1; sort++) {
                int its = sort;
                for (int n : new int[] {41, 42, MAX}) refuses("38 n above 40", scene, x -> x.sheet(2, its, n), BAD);
                for (int n : new int[] {-1, -2, MIN}) refuses("38 n below 0", scene, x -> x.sheet(2, its, n), SIZE);
            }
            refuses("38 BAD s before -14", scene, x -> x.sheet(4, 0, -1), BAD);
            refuses("38 BAD sort before -14", scene, x -> x.sheet(0, 2, -1), BAD);
            refuses("38 BAD sort below before -14", scene, x -> x.sheet(0, -2, -1), BAD);
        }
    }

    private static void sheetAtItsEdges() {
        for (int s = 0; s < 4; s++) {
            CircleTints x = FILLED.make();
            due("38 forty", x.sheet(s, 0, 40), 1);
            for (int i = 0; i < 40; i++) due("38 all 0", x.item(s, i), 0);
            due("38 no more", x.item(s, 40), NO + OUTSIDE);
            due("38 none", x.sheet(s, 1, 0), 1);
            dueRow("38 none", x, s);
            for (int n : new int[] {MIN, -1, 0, 41, MAX}) {
                x.sheet(s, 0, 3);
                due("38 missing, n doesn't matter", x.sheet(s, -1, n), 1);
                due("38 missing", x.item(s, 0), NO + MISSING);
                due("38 missing already", x.sheet(s, -1, n), 1);
            }
            fill(x, s, 1, 5, 6);
            due("38 longer, all 0", x.sheet(s, 1, 3), 1);
            dueRow("38 longer, all 0", x, s, 0, 0, 0);
        }
    }

    private static void writeRefusals() {
        bounds("39 s", ROWS, (x, s) -> x.write(s, 0, 1), 0, 3, BAD);
        bounds("39 s, no int", ROWS, (x, s) -> x.write(s, 99, MOST), 0, 3, BAD);
        for (int i : new int[] {MIN, -1, 0, 3, MAX}) {
            refuses("39 missing", ROWS, x -> x.write(3, i, 1), MISSING);
            refuses("39 missing before -12 and MUCH", ROWS, x -> x.write(3, i, MOST), MISSING);
            refuses("39 of no numbers", ROWS, x -> x.write(2, i, 1), OUTSIDE);
        }
        bounds("39 i of ints", ROWS, (x, i) -> x.write(0, i, 9), 0, 2, OUTSIDE);
        bounds("39 i of longs", ROWS, (x, i) -> x.write(1, i, 9), 0, 2, OUTSIDE);
        bounds("39 i of forty", FILLED, (x, i) -> x.write(3, i, 9), 0, 39, OUTSIDE);
        bounds("39 -12 before MUCH", ROWS, (x, i) -> x.write(0, i, MOST), 0, 2, OUTSIDE);
        for (long v : new long[] {MAX + 1L, MIN - 1L, 1L << 32, -(1L << 32), MOST, LEAST, NO}) {
            refuses("39 no int", ROWS, x -> x.write(0, 2, v), MUCH);
            due("39 a long", ROWS.make().write(1, 2, v), 1);
        }
    }

    private static void writeAtItsEdges() {
        CircleTints x = ROWS.make();
        for (long v : new long[] {MAX, MIN, 0, -1}) {
            due("39 an int", x.write(0, 2, v), 1);
            due("40 an int", x.item(0, 2), v);
        }
        for (long v : new long[] {MOST, LEAST, NO, NO + BAD}) {
            due("39 a long", x.write(1, 0, v), 1);
            due("40 a long", x.item(1, 0), v);
        }
        due("40 others stay", x.item(1, 2), MOST);
        due("40 others stay, too", x.item(0, 1), 2);
    }

    private static void itemRefusals() {
        bounds("40 s", ROWS, (x, s) -> x.item(s, 0), 0, 3, NO + BAD);
        bounds("40 BAD before the rest", ROWS, (x, s) -> x.item(s, -1), 0, 3, NO + BAD);
        for (int i : new int[] {MIN, -1, 0, 3, MAX}) {
            refuses("40 missing", ROWS, x -> x.item(3, i), NO + MISSING);
            refuses("40 of no numbers", ROWS, x -> x.item(2, i), NO + OUTSIDE);
        }
        bounds("40 i of ints", ROWS, (x, i) -> x.item(0, i), 0, 2, NO + OUTSIDE);
        bounds("40 i of longs", ROWS, (x, i) -> x.item(1, i), 0, 2, NO + OUTSIDE);
        bounds("40 i of forty", FILLED, (x, i) -> x.item(0, i), 0, 39, NO + OUTSIDE);
    }

    private static void copyRefusals() {
        bounds("41 s", ROWS, (x, s) -> x.copy(s, 0, 0, 0, 1), 0, 3, BAD);
        bounds("41 t", ROWS, (x, t) -> x.copy(0, 0, t, 0, 1), 0, 3, BAD);
        bounds("41 BAD t before missing", ROWS, (x, t) -> x.copy(3, 0, t, 0, 1), 0, 3, BAD);
        bounds("41 BAD s before missing", ROWS, (x, s) -> x.copy(s, 0, 3, 0, -1), 0, 3, BAD);
        refuses("41 s missing", ROWS, x -> x.copy(3, 0, 0, 0, 1), MISSING);
        refuses("41 t missing", ROWS, x -> x.copy(0, 0, 3, 0, 1), MISSING);
        refuses("41 both missing", ROWS, x -> x.copy(3, 0, 3, 0, 0), MISSING);
        refuses("41 missing before -12", ROWS, x -> x.copy(0, 9, 3, 9, -1), MISSING);
        refuses("41 of unlike sorts", ROWS, x -> x.copy(0, 0, 1, 0, 1), SORTS);
        refuses("41 of unlike sorts, the other way", ROWS, x -> x.copy(1, 0, 0, 0, 1), SORTS);
        refuses("41 of unlike sorts, none", ROWS, x -> x.copy(1, 0, 2, 0, 0), SORTS);
        refuses("41 sorts before -12", ROWS, x -> x.copy(1, -1, 0, 9, -1), SORTS);
        for (int n : new int[] {-1, MIN, MIN + 1, 4, MAX}) refuses("41 n " + n, ROWS, x -> x.copy(0, 0, 0, 0, n), OUTSIDE);
        for (int n = 0; n <= 3; n++) {
            int many = n;
            bounds("41 i for " + n, ROWS, (x, i) -> x.copy(0, i, 0, 0, many), 0, 3 - n, OUTSIDE);
            bounds("41 j for " + n, ROWS, (x, j) -> x.copy(0, 0, 0, j, many), 0, 3 - n, OUTSIDE);
        }
        refuses("41 i and n wrap around", ROWS, x -> x.copy(0, MAX, 0, 0, MAX), OUTSIDE);
        refuses("41 i and n come back to 0", ROWS, x -> x.copy(0, MIN, 0, 0, MIN), OUTSIDE);
        refuses("41 j and n wrap around", ROWS, x -> x.copy(0, 0, 0, MAX, 2), OUTSIDE);
        refuses("41 -1 and 1 more", ROWS, x -> x.copy(0, -1, 0, 0, 2), OUTSIDE);
        refuses("41 to one that is too short", ROWS, x -> x.copy(0, 0, 2, 0, 1), OUTSIDE);
        refuses("41 from one that is too short", ROWS, x -> x.copy(2, 0, 0, 0, 1), OUTSIDE);
    }

    private static void copyAtItsEdges() {
        asks("41 none", ROWS, x -> x.copy(0, 0, 2, 0, 0), 0);
        asks("41 none, at the end", ROWS, x -> x.copy(0, 3, 2, 0, 0), 0);
        asks("41 none of none", ROWS, x -> x.copy(2, 0, 2, 0, 0), 0);
        asks("41 onto itself", ROWS, x -> x.copy(1, 0, 1, 0, 3), 3);
        CircleTints x = FILLED.make();
        due("41 all forty", x.copy(2, 0, 3, 0, 40), 40);
        x.write(2, 39, 5);
        due("41 all forty, and to 3", x.copy(2, 0, 3, 0, 40), 40);
        due("41 the last", x.item(3, 39), 5);
        due("41 forty one", x.copy(2, 0, 3, 0, 41), OUTSIDE);
        due("41 the last one alone", x.copy(2, 0, 3, 39, 1), 1);
        due("41 is the first", x.item(3, 39), LEAST);
        due("41 the one before stays", x.item(3, 38), LEAST + 38);
    }

    private static void copyOverItself() {
        for (int i = 0; i < 6; i++) {
            for (int j = 0; j < 6; j++) {
                for (int n = 0; n <= 6; n++) {
                    CircleTints x = new CircleTints();
                    long[] row = {10, 11, 12, 13, 14, 15};
                    fill(x, 1, 1, row);
                    long[] then = row.clone();
                    boolean fits = i + n <= 6 && j + n <= 6;
                    for (int k = 0; k < n && fits; k++) then[j + k] = row[i + k];
                    due("41 over itself", x.copy(1, i, 1, j, n), fits ? n : OUTSIDE);
                    dueRow("41 as they were", x, 1, then);
                }
            }
        }
    }

    // ---- paint, the image

    private static void paintRefusals() {
        bounds("42 s", SOME, (x, s) -> x.paint(s, 9, 1, 0), 0, 3, BAD);
        bounds("42 BAD s before NONE", SOME, (x, s) -> x.paint(s, 8, 1, 0), 0, 3, BAD);
        for (int s = 0; s < 4; s++) {
            int to = s;
            refuses("42 NONE, it stays", SOME, x -> x.paint(to, 8, 1, 0), NONE);
            refuses("42 BAD p before NONE, it stays", SOME, x -> x.paint(to, 0, 1, 0), BAD);
            refuses("42 NONE by LISTS, it stays", SOME, x -> x.paint(to, 1, 1, 1), NONE);
        }
    }

    private static void paintTruly() {
        for (int s = 0; s < 4; s++) {
            CircleTints x = FILLED.make();
            due("42 how many", x.paint(s, 10, 1, 0), 6);
            for (int p = 0; p < 6; p++) due("42 place of " + p, x.item(s, p), x.place(10, 1, 0, p));
            due("42 no more", x.item(s, 6), NO + OUTSIDE);
            due("42 of ints", x.write(s, 0, 1L << 31), MUCH);
            due("23 a COLOURING", x.judge(s, 10, 1), NONE);
            x.deal(1, 0);
            due("42 one POINT", x.paint(s, 1, 6, 0), 1);
            dueRow("42 one POINT", x, s, 0);
            CircleTints y = new CircleTints();
            due("42 no POINTS", y.paint(s, 1, 1, 1), 0);
            dueRow("42 no numbers", y, s);
        }
    }

    private static void image() {
        CircleTints x = new CircleTints();
        due("43 of a new object", x.image(), 0);
        x.points(6);
        x.seed(9);
        due("44 nothing", x.back(), 0);
        due("44 no POINTS", x.count(0), 0);
        due("44 z", x.count(3), 1);
        asks("43 how many LINES", () -> {
            CircleTints y = SOME.make();
            y.image();
            return y;
        }, y -> y.image(), 5);
        x = FILLED.make();
        due("43 ten", x.image(), 10);
        x.drop(0);
        due("43 the newer one counts", x.image(), 9);
        x.deal(1, 0);
        due("44 the newer one", x.back(), 9);
    }

    private static void back() {
        refuses("44 there is none", EMPTY, x -> x.back(), STATE);
        Scene full = () -> {
            CircleTints x = new CircleTints();
            x.seed(5);
            x.deal(6, 10);
            x.feed('p', 1);
            return x;
        };
        refuses("44 there is none, though there are LINES", full, x -> x.back(), STATE);
        CircleTints x = SOME.make();
        due("44 how many LINES", x.back(), 1);
        due("44 POINTS", x.count(0), 3);
        due("44 z", x.count(3), -5);
        due("44 LIST", x.list(1, 0), 16);
        due("44 a LIST as at first", x.list(0, 0), ALL);
        due("44 no other LINE", x.lineOf(1, 0), BAD);
        due("44 sheets stay", x.item(1, 0), MOST);
        due("44 holds stay", x.told(0, 1), 2);
        due("44 THE TAPE stays", x.count(4), 19);
        due("44 it stays", x.back(), 1);
        due("44 LIST again", x.list(1, 0), 16);
        x.drop(0);
        x.points(3);
        x.seed(MIN);
        due("44 and again", x.back(), 1);
        due("44 z again", x.count(3), -5);
        due("44 the LINE again", x.lineOf(0, 2), 3);
    }
}
