import java.util.ArrayList;
import java.util.HashMap;
import java.util.List;
import java.util.Map;

/** What the tests of boundary cases share: scenes, a print of all that can be asked of an object, calls that must leave it as it was. */
abstract class Edge {
    static final int NONE = -1, BAD = -2, STATE = -3, FULL = -4, MUCH = -5;
    static final int MISSING = -11, OUTSIDE = -12, SORTS = -13, SIZE = -14, BY_0 = -15;
    static final long NO = -4611686018427387904L, ALL = 1099511627775L;
    static final int MIN = Integer.MIN_VALUE, MAX = Integer.MAX_VALUE;
    static final long LEAST = Long.MIN_VALUE, MOST = Long.MAX_VALUE;

    interface Scene {
        CircleTints make();
    }

    interface Call {
        long on(CircleTints x);
    }

    interface CallWith {
        long on(CircleTints x, int v);
    }

    static final Scene EMPTY = CircleTints::new;
    static final Scene SOME = Edge::some;
    static final Scene FILLED = Edge::filled;
    static final List<Scene> SCENES = List.of(EMPTY, SOME, FILLED);

    private static final Map<Scene, List<String>> PRINTS = new HashMap<>();
    private static int asked = 0;
    private static int wrong = 0;

    static void due(String what, long got, long want) {
        asked++;
        if (got != want) fault(what + " answered " + got + ", due is " + want);
    }

    static void fault(String what) {
        wrong++;
        if (wrong <= 40) System.out.println(what);
    }

    static void end() {
        System.out.println(wrong == 0 ? asked + " answers are as due" : wrong + " of " + asked + " answers are not as due");
        if (wrong != 0) System.exit(1);
    }

    // ---- calls that leave all as it was

    /** The call is refused so, once and again, and nothing has changed. */
    static void refuses(String what, Scene scene, Call call, long answer) {
        CircleTints x = scene.make();
        due(what, call.on(x), answer);
        due(what + ", again", call.on(x), answer);
        dueLike(what, printOf(x), PRINTS.computeIfAbsent(scene, s -> printOf(s.make())));
    }

    /** What is asked changes nothing either. */
    static void asks(String what, Scene scene, Call call, long answer) {
        refuses(what, scene, call, answer);
    }

    static void dueLike(String what, List<String> got, List<String> want) {
        asked++;
        if (got.equals(want)) return;
        int i = 0;
        while (i < got.size() && i < want.size() && got.get(i).equals(want.get(i))) i++;
        fault(what + " changed something: " + (i < got.size() ? got.get(i) : "end") + ", was " + (i < want.size() ? want.get(i) : "end"));
    }

    /** An argument may be lo to hi; the first ones outside and the farthest are refused, the last ones inside are not. */
    static void bounds(String what, Scene scene, CallWith call, int lo, int hi, long refusal) {
        for (int v : new int[] {lo - 1, hi + 1, MIN, MIN + 1, MAX - 1, MAX}) {
            refuses(what + " " + v, scene, x -> call.on(x, v), refusal);
        }
        for (int v : new int[] {lo, hi}) {
            if (lo <= hi && call.on(scene.make(), v) == refusal) fault(what + " " + v + " was refused");
            asked++;
        }
    }

    // ---- scenes

    static void feedAll(CircleTints x, String text) {
        for (int i = 0; i < text.length(); i++) x.feed(text.charAt(i), 1);
    }

    static int read(CircleTints x, String text) {
        feedAll(x, text);
        return x.text();
    }

    static CircleTints net(String text) {
        CircleTints x = new CircleTints();
        if (read(x, text) < 1) fault("not read: " + text);
        return x;
    }

    static void fill(CircleTints x, int s, int sort, long... row) {
        x.sheet(s, sort, row.length);
        for (int i = 0; i < row.length; i++) x.write(s, i, row[i]);
    }

    static void dueRow(String what, CircleTints x, int s, long... row) {
        for (int i = 0; i < row.length; i++) due(what + ", number " + i, x.item(s, i), row[i]);
        due(what + ", its end", x.item(s, row.length), NO + OUTSIDE);
    }

    /** 4 POINTS, 5 LINES (none from 1 to 3), RATIO 9; sheets: a colouring by 9, 1; too short; no colouring; missing. */
    private static CircleTints some() {
        CircleTints x = new CircleTints();
        x.points(3);
        x.line(1, 2, 0, 2);
        x.list(1, 16);
        x.seed(-5);
        x.image();
        x.points(1);
        x.line(0, 1, 0, 1);
        x.line(2, 1, 1, 2);
        x.line(4, 3, 2, 3);
        x.line(3, 1, 0, 3);
        x.list(3, 1L << 39 | 3);
        x.seed(77);
        x.paint(0, 9, 1, 0);
        fill(x, 1, 1, MOST, 1, LEAST);
        fill(x, 2, 1, 0, 0, 0, 0);
        x.fraction(0, 3, -2);
        x.hold(1, 0, 0);
        x.hold(2, 1, 1);
        feedAll(x, "points 1;list 0 3 4");
        return x;
    }

    /** 6 POINTS, 10 LINES (none at POINT 5), RATIO 10; 40 numbers in each sheet, 0 a colouring by 10, 1; 120 bytes. */
    private static CircleTints filled() {
        CircleTints x = new CircleTints();
        x.seed(5);
        x.deal(6, 10);
        x.image();
        for (int p = 0; p < 6; p++) x.list(p, ALL - (1L << p));
        for (int s = 0; s < 4; s++) {
            x.sheet(s, s / 2, 40);
            for (int i = 0; i < 40; i++) x.write(s, i, s < 2 ? MAX - i : LEAST + i);
        }
        int[] places = new int[6];
        for (int p = 0; p < 6; p++) places[p] = x.place(10, 1, 0, p);
        for (int p = 0; p < 6; p++) x.write(0, p, places[p]);
        x.fraction(0, LEAST, MOST);
        x.fraction(1, MOST, MOST - 1);
        x.hold(2, 0, 9);
        x.hold(3, 1, 2);
        feedAll(x, "list 0 0 39" + " ".repeat(109));
        return x;
    }

    // ---- prints: what they ask changes things, so an object is of no use behind one

    static List<String> printOf(CircleTints x) {
        List<String> print = new ArrayList<>();
        printNet(x, print);
        for (int h = 0; h < 4; h++) for (int w = 0; w < 7; w++) print.add("told " + h + " " + w + ": " + x.told(h, w));
        printSheets(x, print);
        print.add("bytes: " + x.count(4));
        print.add("text: " + x.text());
        printNet(x, print);
        print.add("back: " + x.back());
        printNet(x, print);
        return print;
    }

    private static void printNet(CircleTints x, List<String> print) {
        for (int w = 0; w < 4; w++) print.add("count " + w + ": " + x.count(w));
        for (int l = 0; l < x.count(1); l++) for (int w = 0; w < 5; w++) print.add("lineOf " + l + " " + w + ": " + x.lineOf(l, w));
        for (int p = 0; p < x.count(0); p++) {
            long was = x.list(p, 0);
            x.list(p, was);
            print.add("list " + p + ": " + was);
        }
        print.add("ratio: " + x.ratio(0) + " of " + x.ratio(1) + ", rings " + x.rings() + ", turns " + x.turns(1));
    }

    private static void printSheets(CircleTints x, List<String> print) {
        for (int s = 0; s < 4; s++) {
            for (int i = 0; i == 0 || x.item(s, i) != NO + OUTSIDE && i < 41; i++) print.add("item " + s + " " + i + ": " + x.item(s, i));
            for (int t = 0; t < 4; t++) print.add("sorts " + s + " " + t + ": " + x.copy(s, 0, t, 0, 0));
        }
        x.sheet(3, 1, 0);
        for (int s = 0; s < 3; s++) print.add("longs " + s + ": " + x.copy(s, 0, 3, 0, 0));
    }
}
