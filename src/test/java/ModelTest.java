import java.lang.reflect.Method;
import java.util.ArrayList;
import java.util.Arrays;
import java.util.List;
import java.util.Random;

/** Runs of drawn calls on CircleTints and on NaiveTints, answer by answer. Arguments: how many runs, first seed. */
public final class ModelTest {
    private static final List<Method> REAL = new ArrayList<>();
    private static final List<Method> NAIVE = new ArrayList<>();
    private static final List<String> HEAVY = List.of("binds", "room", "ratio", "off", "turns", "whole");
    private static final List<String> RARE = List.of("deal", "back", "wipe", "drop");
    private static final List<List<String>> FOCUS = List.of(
        List.of(),
        List.of(),
        List.of("line", "change", "drop", "fits", "place", "ways", "list", "paint", "text"),
        List.of("change", "rate", "worst", "turns", "ratio", "off", "binds", "room", "ring", "circled"),
        List.of("change", "judge", "arcs", "tight", "rounds", "item"),
        List.of("fraction", "does", "compare", "told", "hold", "does", "compare"),
        List.of("sheet", "write", "item", "copy", "hold", "told"),
        List.of("text", "count", "list", "lineOf", "image", "back", "points"));

    private final Random random;
    private final CircleTints real = new CircleTints();
    // Has the same calls and those by which arguments are found, so that these hide nothing in the real one.
    private final CircleTints shadow = new CircleTints();
    private final NaiveTints naive = new NaiveTints();
    private final List<String> log = new ArrayList<>();
    private final boolean dense;
    private final List<String> focus;
    private boolean wrong;

    private ModelTest(long seed) {
        random = new Random(seed);
        dense = random.nextInt(6) == 0;
        focus = FOCUS.get(random.nextInt(FOCUS.size()));
    }

    public static void main(String[] args) throws Exception {
        int runs = args.length > 0 ? Integer.parseInt(args[0]) : 250;
        long seed = args.length > 1 ? Long.parseLong(args[1]) : 1;
        for (Method m : NaiveTints.class.getDeclaredMethods()) {
            if (java.lang.reflect.Modifier.isPublic(m.getModifiers())) NAIVE.add(m);
        }
        NAIVE.sort((a, b) -> a.toString().compareTo(b.toString()));
        for (Method m : NAIVE) REAL.add(CircleTints.class.getMethod(m.getName(), m.getParameterTypes()));
        long[] seen = new long[NAIVE.size()];
        for (int run = 0; run < runs; run++) {
            ModelTest t = new ModelTest(seed + run);
            t.go(seen);
            if (t.wrong) {
                System.out.println("seed " + (seed + run) + ":");
                t.log.forEach(System.out::println);
                System.exit(1);
            }
        }
        System.out.println(runs + " drawn runs answer as the naive model does, " + Arrays.stream(seen).sum() + " calls");
    }

    private void go(long[] seen) throws Exception {
        if (random.nextInt(3) > 0) begin();
        int calls = 40 + random.nextInt(200);
        for (int i = 0; i < calls && !wrong; i++) {
            int m = random.nextInt(NAIVE.size());
            String name = NAIVE.get(m).getName();
            if (!focus.isEmpty() && random.nextInt(3) > 0) {
                name = focus.get(random.nextInt(focus.size()));
                m = indexOf(name);
            } else if ((HEAVY.contains(name) || RARE.contains(name)) && random.nextInt(3) > 0) {
                continue;
            }
            if (name.equals("text") && random.nextInt(3) > 0) feedText();
            seen[m]++;
            call(m, arguments(name));
        }
        for (int w = 0; w < 5 && !wrong; w++) call("count", w);
        for (int l = 0; l < 11 && !wrong; l++) for (int w = 0; w < 5; w++) call("lineOf", l, w);
        for (int p = 0; p < 7 && !wrong; p++) call("list", p, 0L);
        for (int h = 0; h < 4 && !wrong; h++) for (int w = 0; w < 7; w++) call("told", h, w);
        for (int s = 0; s < 4 && !wrong; s++) for (int i = 0; i < 41; i++) call("item", s, i);
    }

    private static int indexOf(String name) {
        for (int m = 0; m < NAIVE.size(); m++) if (NAIVE.get(m).getName().equals(name)) return m;
        throw new IllegalArgumentException(name);
    }

    /** Odd rings with small gaps have RATIOS that aren't whole. */
    private void beginRound() throws Exception {
        int n = 5 + random.nextInt(2);
        call("points", n);
        int far = random.nextInt(3) == 0 ? n - 1 : 4;
        for (int i = 0; i < far; i++) call("line", random.nextInt(5) == 0 ? 1 : 0, 1, i, i + 1);
        call("line", 0, 1, 0, far);
        for (int more = random.nextInt(5); more > 0; more--) call("line", random.nextInt(5) / 2, 1, random.nextInt(n), random.nextInt(n));
        if (random.nextInt(2) == 0) call("drop", random.nextInt(4));
    }

    private void begin() throws Exception {
        if (random.nextInt(3) == 0) {
            beginRound();
            return;
        }
        call("seed", random.nextInt());
        call("deal", random.nextInt(3) == 0 ? 1 + random.nextInt(6) : 4 + random.nextInt(3), dense ? 8 : 1 + random.nextInt(8));
    }

    private void call(String name, Object... args) throws Exception {
        call(indexOf(name), args);
    }

    private void call(int m, Object[] args) throws Exception {
        if (wrong) return;
        long got = ((Number) REAL.get(m).invoke(real, args)).longValue();
        long due = ((Number) NAIVE.get(m).invoke(naive, args)).longValue();
        long shade = ((Number) REAL.get(m).invoke(shadow, args)).longValue();
        log.add(NAIVE.get(m).getName() + Arrays.toString(args) + " answered " + got + (got == due ? "" : ", due is " + due));
        wrong = got != due || shade != due;
    }

    /** Mostly one of lo to hi, now and then one just outside, or far off. */
    private int near(int lo, int hi) {
        int roll = random.nextInt(40);
        if (roll == 0) return lo - 1;
        if (roll == 1) return hi + 1;
        if (roll == 2) return random.nextInt();
        if (roll == 3) return new int[] {Integer.MIN_VALUE, Integer.MAX_VALUE, -1, 0}[random.nextInt(4)];
        return hi < lo ? lo : lo + random.nextInt(hi - lo + 1);
    }

    private int aLine() {
        return near(0, shadow.count(1) - 1);
    }

    private int aPoint() {
        return near(0, shadow.count(0) - 1);
    }

    private int aTurn() {
        return near(0, (1 << shadow.count(1)) - 1);
    }

    private int aSheet() {
        return near(0, random.nextInt(3) == 0 ? 3 : 1);
    }

    private long aLong() {
        switch (random.nextInt(8)) {
            case 0: return random.nextLong();
            case 1: return random.nextInt();
            case 2: return Long.MIN_VALUE >> random.nextInt(64);
            case 3: return Long.MAX_VALUE >> random.nextInt(64);
            case 4: return 3037000499L + random.nextInt(3) - 1;
            case 5: return Long.MIN_VALUE + random.nextInt(3);
            default: return random.nextInt(41) - 20;
        }
    }

    private long aList() {
        switch (random.nextInt(12)) {
            case 0: return random.nextLong();
            case 1: return 1L << 40;
            case 2: return 0;
            case 3: return (1L << 40) - 1;
            case 4: return -1;
            default: return random.nextLong() & (random.nextInt(2) == 0 ? random.nextLong() : -1) & (1L << 40) - 1;
        }
    }

    private int anEdgeOfRatio(int q) {
        int p = shadow.ratio(0) * q / Math.max(1, shadow.ratio(1)) + random.nextInt(5) - 1;
        return Math.max(1, Math.min(40, p));
    }

    /** The naive search may take very long for many places, so these are asked for just now and then. */
    private Object[] measures(int most) {
        int q = near(1, random.nextInt(2) == 0 ? 2 : 6);
        int lists = near(0, 1);
        if (q < 1 || q > 6) return new Object[] {near(1, most), q, lists};
        int roll = random.nextInt(8);
        int p = roll == 0 ? near(1, most) : roll < 6 ? anEdgeOfRatio(q) : near(1, 10);
        return new Object[] {p, q, lists};
    }

    private Object[] join(Object[] a, Object... b) {
        Object[] all = Arrays.copyOf(a, a.length + b.length);
        System.arraycopy(b, 0, all, a.length, b.length);
        return all;
    }

    private Object[] arguments(String name) throws Exception {
        switch (name) {
            case "points": return new Object[] {near(1, random.nextInt(3) == 0 ? 6 : 2)};
            case "line": return new Object[] {near(0, 4), near(1, 3), aPoint(), aPoint()};
            case "lineOf": return new Object[] {aLine(), near(0, 4)};
            case "change": return new Object[] {aLine(), near(0, 1), near(0, 4)};
            case "drop": case "room": return new Object[] {aLine()};
            case "list": return new Object[] {aPoint(), aList()};
            case "count": return new Object[] {near(0, 4)};
            case "fits": return measures(40);
            case "place": return join(measures(40), aPoint());
            case "ways": return new Object[] {near(1, 8), near(1, random.nextInt(2) == 0 ? 1 : 6), near(0, 1)};
            case "ratio": case "off": return new Object[] {near(0, 1)};
            case "ring": return new Object[] {near(0, shadow.rings() - 1), near(0, 2)};
            case "circled": case "worst": return new Object[] {aTurn()};
            case "rate": return new Object[] {aTurn(), near(0, 1)};
            case "turns": return new Object[] {near(0, 2)};
            case "judge": case "arcs": case "tight": case "rounds": return told(name);
            case "next": return new Object[] {part(0), part(1), part(1), near(0, 1), near(0, 1)};
            case "fraction": return new Object[] {near(0, 3), aLong(), random.nextInt(20) == 0 ? 0L : aLong()};
            case "hold": return aHold();
            case "does": return new Object[] {near(0, 3), near(0, 4), near(0, 3)};
            case "compare": return new Object[] {near(0, 3), near(0, 3)};
            case "told": return new Object[] {near(0, 3), near(0, 6)};
            case "feed": return new Object[] {random.nextInt(), near(1, 4)};
            case "seed": return new Object[] {random.nextInt()};
            case "deal": return new Object[] {near(1, 6), near(0, 10)};
            case "sheet": return new Object[] {aSheet(), near(-1, 1), near(0, random.nextInt(2) == 0 ? 8 : 40)};
            case "write": return new Object[] {aSheet(), near(0, 7), random.nextInt(4) == 0 ? aLong() : random.nextInt(12)};
            case "item": return new Object[] {aSheet(), near(0, 7)};
            case "copy": return new Object[] {aSheet(), near(0, 7), aSheet(), near(0, 7), near(0, 7)};
            case "paint": return join(new Object[] {aSheet()}, measures(40));
            default: return new Object[] {};
        }
    }

    private int part(int least) {
        return random.nextInt(3) == 0 ? near(least, 9999) : near(least, 30);
    }

    private Object[] aHold() {
        int what = near(0, 2);
        return new Object[] {near(0, 3), what, what == 0 ? aLine() : what == 1 ? aSheet() : random.nextInt()};
    }

    /** Mostly paints a sheet first, and now and then spoils or turns it. */
    private Object[] told(String name) throws Exception {
        int s = aSheet();
        int q = near(1, 6);
        int p = q < 1 || q > 6 ? 5 : anEdgeOfRatio(q);
        if (random.nextInt(4) > 0 && q >= 1 && q <= 6) {
            call("paint", s, p, q, p <= 16 && random.nextInt(3) == 0 ? 1 : 0);
            if (random.nextInt(6) == 0) call("write", s, near(0, 5), (long) near(0, p));
            if (random.nextInt(12) == 0) call("points", 1);
        }
        if (random.nextInt(15) == 0) p = near(1, 40);
        Object[] args = {s, p, q};
        return name.equals("tight") ? join(args, near(0, 1)) : name.equals("rounds") ? join(args, aSheet()) : args;
    }

    private void feedText() throws Exception {
        StringBuilder text = new StringBuilder();
        int items = 1 + random.nextInt(4);
        for (int i = 0; i < items; i++) {
            if (i > 0) text.append(blanks()).append(';').append(blanks());
            text.append(anItem());
        }
        if (random.nextInt(3) == 0 && text.length() > 0) {
            int at = random.nextInt(text.length());
            switch (random.nextInt(4)) {
                case 0: text.deleteCharAt(at); break;
                case 1: text.setCharAt(at, "az09; #A`{/:\0\u00ff".charAt(random.nextInt(14))); break;
                case 2: text.insert(at, "az09; #A".charAt(random.nextInt(8))); break;
                default: text.setLength(at); break;
            }
        }
        text.append(blanks());
        if (random.nextInt(10) > 0) call("wipe");
        for (int i = 0; i < text.length(); ) {
            int n = Math.min(1 + random.nextInt(4), text.length() - i);
            int bytes = n < 4 ? random.nextInt() << 8 * n : 0;
            for (int k = 0; k < n; k++) bytes |= text.charAt(i + k) << 8 * (n - 1 - k);
            call("feed", bytes, n);
            i += n;
        }
    }

    private String blanks() {
        return " ".repeat(random.nextInt(4) == 0 ? random.nextInt(3) : 0);
    }

    private String anItem() {
        int n = shadow.count(0);
        String kind = random.nextInt(20) == 0 ? "plainer" : new String[] {"plain", "wide", "thin", "span", "even"}[random.nextInt(5)];
        String point = number(near(0, n)) + " ";
        switch (random.nextInt(4)) {
            case 0: return "points " + number(near(1, 3));
            case 1: return "line " + kind + " " + number(near(1, 3)) + " " + point + number(near(0, n));
            case 2: return "round " + kind + " " + number(near(1, 3)) + " " + number(near(0, n / 2)) + " " + number(near(n / 2, n - 1));
            default: return "list " + point + number(near(0, 39)) + " " + number(near(20, 39));
        }
    }

    private String number(int v) {
        String s = v < 0 ? "1000" : Integer.toString(v);
        return random.nextInt(10) == 0 ? "00" + s : s;
    }
}
