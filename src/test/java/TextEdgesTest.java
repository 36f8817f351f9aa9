import java.util.ArrayList;
import java.util.List;

/** Boundary cases of promises 33 to 35: THE TAPE, texts and their FAULTS. The number before a row's name is the promise. */
public final class TextEdgesTest extends Edge {
    private static final String NINE_LINES = "points 6;round plain 1 0 4;round plain 1 0 3;round plain 1 0 2;line plain 1 1 3;line plain 1 1 4";
    private static final String TEN_LINES = NINE_LINES + ";round plain 1 2 4";
    private static final String[] FRONTS = {"", "   ", "points 1;", " points 1 ; ", "points 1;list 0 0 0;line plain 1 0 1; "};

    private static final Scene FOUR = () -> {
        CircleTints x = net("points 4;line even 3 1 2;list 3 7 9");
        x.image();
        x.seed(-9);
        return x;
    };

    public static void main(String[] args) {
        feedBounds();
        feedFull();
        feedInTheirOrder();
        wipe();
        eachByteAlone();
        eachByteBehindAnItem();
        wrongTokens();
        endsTooEarly();
        fullTape();
        pointsItem();
        lineItem();
        noRoomForALine();
        roundItem();
        roundWhileThereIsRoom();
        listItem();
        numbers();
        blanks();
        words();
        itemByItem();
        end();
    }

    // ---- THE TAPE

    private static void feedBounds() {
        for (Scene scene : SCENES) bounds("33 n", scene, (x, n) -> x.feed(-1, n), 1, 4, BAD);
    }

    private static CircleTints taped(int bytes) {
        CircleTints x = new CircleTints();
        feedAll(x, "points 1;list 0 3 4" + " ".repeat(101));
        x.wipe();
        feedAll(x, ("points 1;list 0 3 4" + " ".repeat(101)).substring(0, bytes));
        return x;
    }

    private static void feedFull() {
        for (int have = 100; have <= 120; have++) {
            int size = have;
            Scene scene = () -> taped(size);
            for (int n = 1; n <= 4; n++) {
                int more = n;
                if (have + n <= 120) due("33 just room", scene.make().feed(0, n), have + n);
                else refuses("33 no room for all", scene, x -> x.feed(0x20202020, more), FULL);
            }
            refuses("33 BAD before FULL", scene, x -> x.feed(0, 5), BAD);
            refuses("33 BAD below before FULL", scene, x -> x.feed(0, 0), BAD);
        }
    }

    private static void feedInTheirOrder() {
        String text = "points 1;list 0 3 4;points 2";
        for (int n = 1; n <= 4; n++) {
            for (int above : new int[] {0, -1, MIN, MAX}) {
                CircleTints x = new CircleTints();
                for (int i = 0; i < text.length() / n * n; i += n) {
                    int bytes = n == 4 ? 0 : above << 8 * n;
                    for (int k = 0; k < n; k++) bytes |= text.charAt(i + k) << 8 * (n - 1 - k);
                    due("33 how many", x.feed(bytes, n), i + n);
                }
                for (int i = text.length() / n * n; i < text.length(); i++) x.feed(text.charAt(i) | above << 8, 1);
                due("35 by " + n, x.text(), 3);
                due("35 POINTS by " + n, x.count(0), 3);
                due("35 LIST by " + n, x.list(0, 0), 24);
            }
        }
    }

    private static void wipe() {
        for (int size : new int[] {0, 1, 119, 120}) {
            CircleTints x = taped(size);
            due("34 how many it had", x.wipe(), size);
            due("34 empty", x.count(4), 0);
            due("34 it had none", x.wipe(), 0);
            due("34 room for all", x.feed('p', 1), 1);
            x.wipe();
            due("35 nothing of it is left", read(x, "points 1"), 1);
        }
        CircleTints x = SOME.make();
        x.wipe();
        due("34 the net stays", x.count(0) * 10 + x.count(1), 45);
        due("34 holds stay", x.told(0, 1), 2);
    }

    // ---- FAULTS

    /** The FAULT is told, THE TAPE is empty, and all else is as it was. */
    private static void dueFault(Scene scene, String text, int place) {
        refuses("35 FAULT in '" + text + "'", scene, x -> read(x, text), -100 - place);
        CircleTints x = scene.make();
        read(x, text);
        due("35 the tape after '" + text + "'", x.count(4), 0);
    }

    private static void dueFault(String net, String text, int place) {
        dueFault(net.isEmpty() ? EMPTY : () -> net(net), text, place);
    }

    private static void dueRead(String net, String text, int items) {
        CircleTints x = net.isEmpty() ? new CircleTints() : net(net);
        due("35 '" + text + "'", read(x, text), items);
        due("35 the tape after '" + text + "'", x.count(4), 0);
    }

    private static void eachByteAlone() {
        dueFault(EMPTY, "", 0);
        for (int b = 0; b < 256; b++) dueFault(EMPTY, "" + (char) b, b == ' ' ? 1 : 0);
        for (int b = 0; b < 256; b++) dueFault(FOUR, "  " + (char) b, b == ' ' ? 3 : 2);
    }

    private static void eachByteBehindAnItem() {
        for (int b = 0; b < 256; b++) {
            String text = "points 1" + (char) b;
            if (b == ' ') dueRead("", text, 1);
            else if (b == ';') dueFault(EMPTY, text, 9);
            else if (b >= '0' && b <= '9') dueFault(EMPTY, text, 7);
            else dueFault(EMPTY, text, 8);
            if (b != ' ' && b != ';') dueFault(EMPTY, "points 1 " + (char) b, 9);
        }
    }

    private static List<String> wrongs(String right) {
        List<String> all = new ArrayList<>(List.of(";", "plains", "x", "1000", "4294967296", "18446744073709551616"));
        for (int b : new int[] {0, 9, 10, 31, 33, 44, 45, 47, 58, 60, 64, 65, 90, 91, 96, 123, 127, 128, 160, 176, 225, 255}) all.add("" + (char) b);
        if (right.charAt(0) > '9') {
            all.addAll(List.of(right + "s", right.substring(1), right.substring(0, right.length() - 1), right.toUpperCase(), "1", "0"));
        } else {
            all.addAll(List.of("40", "999", "points", "plain"));
        }
        return all;
    }

    private static void wrongTokens() {
        String[][] items = {{"points", "1"}, {"line", "plain", "1", "0", "3"}, {"round", "even", "3", "0", "2"}, {"list", "1", "39", "39"}};
        for (String front : FRONTS) {
            for (String[] item : items) {
                StringBuilder before = new StringBuilder(front);
                for (String right : item) {
                    for (String bad : wrongs(right)) dueFault(FOUR, before + bad + " 1", before.length());
                    before.append(right).append(' ');
                }
                for (String bad : wrongs("1")) if (!bad.equals(";")) dueFault(FOUR, before + bad, before.length());
            }
        }
    }

    private static void endsTooEarly() {
        String[] texts = {"points 1", "line plain 1 0 3", "round even 3 0 2", "list 1 0 39"};
        for (String front : FRONTS) {
            for (String text : texts) {
                String[] tokens = text.split(" ");
                StringBuilder part = new StringBuilder(front);
                for (String token : tokens) {
                    for (int more = 0; more < 3; more++) dueFault(FOUR, part + " ".repeat(more), part.length() + more);
                    if (part.length() > front.length()) part.append(' ');
                    part.append(token);
                }
                dueFault(FOUR, part + ";", part.length() + 1);
                dueFault(FOUR, part + " ; ", part.length() + 3);
            }
        }
    }

    private static void fullTape() {
        dueRead("", "points 6" + " ".repeat(112), 1);
        dueRead("", " ".repeat(112) + "points 6", 1);
        dueFault(EMPTY, " ".repeat(120), 120);
        dueFault(EMPTY, "points" + " ".repeat(114), 120);
        dueFault(EMPTY, " ".repeat(119) + "x", 119);
        dueFault(EMPTY, "points 1" + " ".repeat(111) + ";", 120);
        dueFault(EMPTY, "a".repeat(120), 0);
        dueFault(EMPTY, "1".repeat(120), 0);
        dueFault(EMPTY, "points " + "9".repeat(113), 7);
        dueRead("", "points " + "0".repeat(112) + "6", 1);
        dueRead("points 1", "list0 0 0;".repeat(11) + "list0 0 0", 12);
        dueFault("points 1", "list0 0 0;".repeat(12), 120);
    }

    // ---- ITEMS

    private static void pointsItem() {
        for (int have = 0; have <= 6; have++) {
            String net = have == 0 ? "" : "points " + have;
            for (int n = 0; n <= 8; n++) {
                if (n > 0 && have + n <= 6) {
                    CircleTints x = have == 0 ? new CircleTints() : net(net);
                    due("35 points", read(x, "points " + n), 1);
                    due("35 so many more", x.count(0), have + n);
                    due("35 with all places", x.list(have + n - 1, 0), ALL);
                } else {
                    dueFault(net, "points " + n, 7);
                }
            }
        }
        dueFault(EMPTY, "points 3;points 4", 16);
        dueRead("", "points 3;points 3", 2);
        dueFault(EMPTY, "points 6;points 1", 16);
        dueFault(FILLED_NO_TAPE, "points 1", 7);
    }

    private static final Scene FILLED_NO_TAPE = () -> {
        CircleTints x = FILLED.make();
        x.wipe();
        return x;
    };

    private static void lineItem() {
        for (int figure = 0; figure <= 4; figure++) {
            if (figure >= 1 && figure <= 3) dueRead("points 4", "line thin " + figure + " 3 0", 1);
            else dueFault(FOUR, "line thin " + figure + " 3 0", 10);
        }
        for (int a = 0; a <= 5; a++) {
            for (int b = 0; b <= 5; b++) {
                String text = "line wide 2 " + a + " " + b;
                if (a > 3) dueFault(FOUR, text, 12);
                else if (b > 3 || a == b || a + b == 3 && a * b == 2) dueFault(FOUR, text, 14);
                else dueOneLine(text, a, b);
            }
        }
        dueFault(EMPTY, "line plain 1 0 1", 13);
        dueFault("points 1", "line plain 1 0 0", 15);
        dueFault("points 1", "line plain 1 0 1", 15);
        dueFault("points 2", "line plain 1 0 1;line wide 1 1 0", 31);
    }

    private static void dueOneLine(String text, int a, int b) {
        CircleTints x = FOUR.make();
        due("35 " + text, read(x, text), 1);
        due("35 KIND, FIGURE", x.lineOf(1, 0) * 10 + x.lineOf(1, 1), 12);
        due("35 POINTS", x.lineOf(1, 3) * 10 + x.lineOf(1, 4), Math.min(a, b) * 10 + Math.max(a, b));
    }

    private static void noRoomForALine() {
        dueFault(TEN_LINES, "line plain 1 0 5", 0);
        dueFault(TEN_LINES, "  line", 2);
        dueFault(TEN_LINES, "line x", 0);
        dueFault(TEN_LINES, "list 0 0 0;line plain 1 0 5", 11);
        dueRead(NINE_LINES, "line plain 1 0 5", 1);
        dueFault(NINE_LINES, "line plain 1 0 5;line plain 1 1 5", 17);
        dueFault(NINE_LINES, "round plain 1 0 5;line plain 1 1 5", 18);
        CircleTints x = net(TEN_LINES);
        due("3 ten", x.count(1), 10);
        x.drop(0);
        due("35 room again", read(x, "line plain 1 0 5"), 1);
    }

    private static void roundItem() {
        for (int a = 0; a <= 5; a++) {
            for (int b = 0; b <= 5; b++) {
                String text = "round wide 2 " + a + " " + b;
                if (a > 3) dueFault(FOUR, text, 13);
                else if (b > 3 || b <= a) dueFault(FOUR, text, 15);
                else dueRound(text, a, b);
            }
        }
        for (int figure = 0; figure <= 4; figure++) {
            if (figure >= 1 && figure <= 3) dueRead("points 4", "round thin " + figure + " 0 3", 1);
            else dueFault(FOUR, "round thin " + figure + " 0 3", 11);
        }
        dueFault(EMPTY, "round plain 1 0 1", 14);
        dueFault("points 1", "round plain 1 0 1", 16);
        dueFault("points 1", "round plain 1 0 0", 16);
    }

    /** Of FOUR the LINE from 1 to 2 is there, EVEN with 3, and stays so. */
    private static void dueRound(String text, int a, int b) {
        CircleTints x = FOUR.make();
        due("35 " + text, read(x, text), 1);
        int l = 1;
        for (int i = a; i < b; i++) if (i != 1) dueLine(x, l++, i, i + 1);
        if (b - a > 1) dueLine(x, l++, a, b);
        due("35 no more", x.count(1), l);
        due("35 what there was stays", x.lineOf(0, 0) * 10 + x.lineOf(0, 1), 43);
    }

    private static void dueLine(CircleTints x, int l, int low, int high) {
        due("35 LINE " + l, x.lineOf(l, 3) * 10 + x.lineOf(l, 4), low * 10 + high);
        due("35 of KIND, FIGURE", x.lineOf(l, 0) * 10 + x.lineOf(l, 1), 12);
    }

    private static void roundWhileThereIsRoom() {
        CircleTints x = net(NINE_LINES);
        due("35 room for one", read(x, "round wide 2 3 5"), 1);
        due("35 ten", x.count(1), 10);
        dueLine(x, 9, 4, 5);
        dueRead(TEN_LINES, "round plain 1 0 5", 1);
        x = net(TEN_LINES);
        due("35 none comes, no FAULT", read(x, "round wide 2 0 5"), 1);
        due("35 still ten", x.count(1), 10);
        dueFault(TEN_LINES, "round plain 4 0 5", 12);
        dueFault(TEN_LINES, "round plain 1 5 0", 16);
        dueFault(TEN_LINES, "round plain 1 6 7", 14);
    }

    private static void listItem() {
        for (int from = 0; from <= 41; from++) {
            for (int to = 0; to <= 41; to++) {
                String text = "list 3 " + from + " " + to;
                if (from > 39) dueFault(FOUR, text, 7);
                else if (to < from || to > 39) dueFault(FOUR, text, from > 9 ? 10 : 9);
                else dueList(text, from, to);
            }
        }
        for (int p = 0; p <= 5; p++) {
            if (p <= 3) dueRead("points 4", "list " + p + " 0 39", 1);
            else dueFault(FOUR, "list " + p + " 0 39", 5);
        }
        dueFault(EMPTY, "list 0 0 0", 5);
    }

    private static void dueList(String text, int from, int to) {
        CircleTints x = FOUR.make();
        long places = 0;
        for (int i = from; i <= to; i++) places |= 1L << i;
        due("35 " + text, read(x, text), 1);
        due("35 LIST by " + text, x.list(3, 0), places);
        due("35 of that POINT alone", x.list(2, 0), ALL);
    }

    // ---- TOKENS

    private static void numbers() {
        dueRead("", "points 006", 1);
        dueRead("points 1", "list 000 00000 000000000000039", 1);
        for (String n : new String[] {"999", "1000", "9999", "65537", "2147483648", "4294967297", "9223372036854775808", "18446744073709551617"}) {
            dueFault(EMPTY, "points " + n, 7);
            dueFault(FOUR, "list 0 " + n + " 39", 7);
            dueFault(FOUR, "list 0 0 " + n, 9);
            dueFault(FOUR, "line plain " + n + " 0 3", 11);
        }
        dueFault(EMPTY, "points -1", 7);
        dueFault(EMPTY, "points +1", 7);
        dueFault(EMPTY, "points 1.0", 8);
        // a NUMBER is as long as can be
        dueFault(FOUR, "list 00 39", 10);
        dueFault(FOUR, "line plain 10 3", 11);
    }

    private static void blanks() {
        dueRead("", "points1", 1);
        dueRead("", "points1;points1", 2);
        dueRead("points 4", "line plain1 0 3", 1);
        dueRead("points 4", "list0 5 39;line even3 0 3;round span2 0 3", 3);
        dueRead("", "  points   1   ;   points   1   ", 2);
        dueFault(FOUR, "lineplain 1 0 3", 0);
        dueFault(EMPTY, "point s 1", 0);
        dueFault(EMPTY, "points 1\n", 8);
        dueFault(EMPTY, "points\t1", 6);
        dueFault(EMPTY, "points 1points 1", 8);
        dueFault(EMPTY, "points 1 points 1", 9);
        dueFault(EMPTY, "points 1;;points 1", 9);
        dueFault(EMPTY, ";points 1", 0);
    }

    private static void words() {
        String[] kinds = {"plain", "wide", "thin", "span", "even"};
        for (int kind = 0; kind < 5; kind++) {
            CircleTints x = FOUR.make();
            due("35 " + kinds[kind], read(x, "line " + kinds[kind] + " 1 0 3"), 1);
            due("35 KIND", x.lineOf(1, 0), kind);
            for (int cut = 1; cut < kinds[kind].length(); cut++) dueFault(FOUR, "line " + kinds[kind].substring(0, cut) + " 1 0 3", 5);
            dueFault(FOUR, "round " + kinds[kind] + "e 1 0 3", 6);
        }
        for (String word : new String[] {"points", "line", "round", "list"}) {
            for (int cut = 1; cut < word.length(); cut++) dueFault(FOUR, word.substring(0, cut) + " 1 0 3", 0);
            for (int i = 0; i < word.length(); i++) {
                char[] other = word.toCharArray();
                other[i] = other[i] == 'z' ? 'a' : 'z';
                dueFault(FOUR, new String(other) + " 1 0 3", 0);
            }
        }
        dueFault(FOUR, "line line 1 0 3", 5);
        dueFault(FOUR, "plain 1 0 3", 0);
    }

    private static void itemByItem() {
        CircleTints x = new CircleTints();
        due("35 what comes first counts for what comes next", read(x, "points 2;line plain 1 0 1;points 1;round wide 1 0 2;list 2 4 5"), 5);
        due("35 POINTS, LINES", x.count(0) * 10 + x.count(1), 33);
        dueFault(EMPTY, "line plain 1 0 1;points 2", 13);
        dueFault(EMPTY, "list 0 0 0;points 1", 5);
        dueFault(EMPTY, "points 1;list 1 0 0", 14);
        dueFault(FOUR, "points 2;line plain 1 0 1;list 0 0 0;round span 1 0 5;list 3 1 0", 63);
        x = net("points 1;list 0 3 4");
        due("35 the last of two LISTS", read(x, "list 0 0 39;list 0 5 5"), 2);
        due("35 is so", x.list(0, 0), 32);
        x = FOUR.make();
        due("35 z stays", read(x, "points 2"), 1);
        due("35 z", x.count(3), -9);
        due("44 THE IMAGE stays", x.back(), 1);
        due("44 POINTS", x.count(0), 4);
        due("35 the same text again, THE TAPE is empty", x.text(), -100);
    }
}
