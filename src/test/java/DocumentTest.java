import java.io.IOException;
import java.nio.file.Files;
import java.nio.file.Path;

/**
 * The document from its first line to its last, sentence by sentence: each is quoted and then tried, and what is quoted must be
 * the whole document in its order, so that no sentence is left without a test (but for what is not promised: that asks nothing).
 * Deeper tests of each promise stand in the other tests.
 */
public final class DocumentTest extends Edge {
    private static final String ROUND = "points 5;round plain 1 0 4";
    private static final Scene FIVE = () -> net(ROUND);
    private static final Scene NO_LINES = () -> net("points 6");
    private static final String TEN_LINES = "points 6;round plain 1 0 4;round plain 1 0 3;round plain 1 0 2;"
        + "round plain 1 1 4;round plain 1 2 4;line plain 1 1 3";

    private static String left;

    public static void main(String[] args) throws IOException {
        left = words(Files.readString(Path.of("../shared/DOC.md")));
        whatItIs();
        refusals();
        asking();
        pointsAndLines();
        colourings();
        rings();
        turns();
        tightness();
        holdsAndSheets();
        drawsAndImage();
        tokens();
        items();
        faults();
        theInterface();
        promises1To4();
        promises5To8();
        promises9To11();
        promises12To14();
        promises15To17();
        promises18To20();
        promises21And22();
        promises23And24();
        promises25And26();
        promises27And28();
        promises29And30();
        promises31And32();
        promises33To35();
        promises36And37();
        promises38To40();
        promises41And42();
        promises43And44();
        notPromised();
        if (!left.isEmpty()) fault("the document says more: " + left);
        end();
    }

    /** The document in one row, without its headings, its fences and the face, which FaceTest reads. */
    private static String words(String document) {
        String text = document.replaceAll("(?s)```java.*?```", "");
        return text.replaceAll("(?m)^(#|```).*$", "").replaceAll("\\s+", " ").strip();
    }

    private static void says(String words) {
        int at = left.indexOf(words);
        if (at != 0) fault("not what the document says here: " + words);
        if (at >= 0) left = left.substring(at + words.length()).strip();
    }

    private static void dueRatio(String what, int above, int below, long dueAbove, long dueBelow) {
        due(what + ", above", above, dueAbove);
        due(what + ", below", below, dueBelow);
    }

    private static void dueFraction(String what, CircleTints x, int h, long above, long below) {
        due(what + ", above", x.told(h, 0), above);
        due(what + ", below", x.told(h, 1), below);
    }

    // ---- what it is

    private static void whatItIs() {
        CircleTints x = FIVE.make();
        says("Networks coloured round a circle: points that stand on a circle, lines that keep two of them so far apart, by kinds;");
        due("points", x.count(0), 5);
        due("lines", x.count(1), 5);
        due("so far apart, by kinds", x.change(0, 0, 1) * 10 + x.lineOf(0, 2), 2);
        x.change(0, 0, 0);
        says("colourings by so many places, so many of them for one, the first of all, how many, also from lists;");
        due("by so many places, for one", x.fits(5, 2, 0) * 10 + x.fits(4, 2, 0), 10);
        due("the first of all", x.place(5, 2, 0, 4), 3);
        due("how many", x.ways(5, 2, 0), 10);
        x.list(0, 2);
        due("also from lists", x.ways(5, 2, 1), 2);
        says("the least ratio exactly by turns of all lines, rings and their rates;");
        dueRatio("the least ratio", x.ratio(0), x.ratio(1), 5, 2);
        dueRatio("a turn's rate", x.rate(0, 0), x.rate(0, 1), 5, 1);
        due("rings", x.rings(), 6);
        says("rings that are tight in a told colouring, how often they go round;");
        x.paint(0, 5, 2, 0);
        due("a tight ring", x.tight(0, 5, 2, 0), 31);
        due("goes round twice", x.tight(0, 5, 2, 1), 2);
        says("whole colours, how far off they are, colourings rounded to them;");
        due("whole colours", x.whole(), 3);
        dueRatio("how far off", x.off(0), x.off(1), 1, 2);
        due("rounded", x.rounds(0, 5, 2, 1), 3);
        dueRow("rounded", x, 1, 0, 1, 2, 0, 1);
        says("fractions that come next by their lower parts; nets read from a text; what a line binds, how much room it has;");
        dueRatio("next", x.next(5, 2, 4, 0, 0), x.next(5, 2, 4, 0, 1), 7, 3);
        due("a text", read(x, "points 1;line plain 1 4 5"), 2);
        due("binds", x.binds(), 31);
        due("room", x.room(5), 0);
        says("fractions in holds, added, parted, compared, where numbers may be too great; nets by draws; rows, an image.");
        x.fraction(0, 1, 2);
        x.fraction(1, 1, MOST);
        due("too great", x.does(0, 0, 1), MUCH);
        due("compared", x.compare(0, 1), 2);
        due("an image", x.image(), 6);
        due("by draws", x.deal(3, 10), 3);
        due("as it was", x.back(), 6);
        says("An object is used for at most 512 calls after it has been made; what later calls answer is free.");
        x = new CircleTints();
        x.points(2);
        x.line(0, 1, 0, 1);
        for (int call = 3; call <= 511; call++) due("call " + call, x.change(0, 1, 1 + (call - 2) % 3), 1 + (call - 3) % 3);
        due("call 512", x.ratio(0), 2 * (1 + 509 % 3));
    }

    // ---- Terms

    private static void refusals() {
        says("Answers below 0 are refusals, where nothing else is told (of longs NO and that number together, where told);");
        refuses("an int", SOME, x -> x.points(0), -2);
        refuses("a long", SOME, x -> x.list(9, 0), -4611686018427387904L - 2);
        CircleTints told = SOME.make();
        told.seed(-1);
        due("something else is told: z below 0", told.seed(-7), -1);
        due("something else is told: a number below 0", told.item(1, 2), LEAST);
        says("a refused call changes nothing;");
        refuses("no room", FILLED, x -> x.points(1), FULL);
        refuses("no colouring to paint", SOME, x -> x.paint(0, 8, 1, 0), NONE);
        refuses("too great", FILLED, x -> x.does(0, 2, 1), MUCH);
        says("of several refusals the first that is named at the call:");
        refuses("BAD, STATE, FULL", FILLED, x -> x.line(5, 1, 0, 1), BAD);
        refuses("STATE, FULL", FILLED, x -> x.line(4, 1, 0, 1), STATE);
        refuses("-11, -12", SOME, x -> x.write(3, -1, 0), MISSING);
        says("NONE (-1) there is none, BAD (-2) a number is none such or not as told, STATE (-3), FULL (-4), MUCH (-5);");
        refuses("NONE", EMPTY, x -> x.whole(), -1);
        refuses("BAD", EMPTY, x -> x.room(0), -2);
        refuses("STATE", EMPTY, x -> x.back(), -3);
        refuses("FULL", FILLED, x -> x.feed(0, 1), -4);
        refuses("MUCH", EMPTY, x -> x.fraction(0, 1, LEAST), -5);
        says("the host's: -11 nothing is held, -12 a place outside, -13 a thing of another sort, -14 a size below 0, -15 parted by 0.");
        refuses("nothing is held", EMPTY, x -> x.compare(0, 0), -11);
        refuses("a place outside", SOME, x -> x.write(0, 4, 0), -12);
        refuses("a thing of another sort", SOME, x -> x.compare(0, 1), -13);
        refuses("a size below 0", SOME, x -> x.sheet(0, 0, -1), -14);
        refuses("parted by 0", SOME, x -> x.fraction(0, 1, 0), -15);
    }

    private static void asking() {
        says("What is asked changes nothing, but where it is told.");
        asks("lineOf", SOME, x -> x.lineOf(0, 2), 3);
        asks("count", SOME, x -> x.count(4), 19);
        asks("fits", SOME, x -> x.fits(9, 1, 0), 1);
        asks("place", SOME, x -> x.place(9, 1, 0, 0), 0);
        asks("ways", SOME, x -> x.ways(8, 1, 0), 0);
        asks("ratio", SOME, x -> x.ratio(0), 9);
        asks("whole", SOME, x -> x.whole(), 9);
        asks("off", SOME, x -> x.off(1), 1);
        asks("rings", SOME, x -> x.rings(), 8);
        asks("ring", SOME, x -> x.ring(0, 2), 6);
        asks("circled", SOME, x -> x.circled(0), 0);
        asks("rate", SOME, x -> x.rate(0, 1), 1);
        asks("worst", SOME, x -> x.worst(31), 25);
        asks("turns", SOME, x -> x.turns(0), 18);
        asks("binds", FIVE, x -> x.binds(), 31);
        asks("room", SOME, x -> x.room(0), 0);
        asks("judge", SOME, x -> x.judge(0, 9, 1), NONE);
        asks("arcs of a LINE", SOME, x -> Math.min(1, x.arcs(0, 9, 1)), 1);
        asks("tight", SOME, x -> x.tight(0, 9, 1, 1), 1);
        asks("next", SOME, x -> x.next(1, 2, 3, 0, 1), 3);
        asks("compare", SOME, x -> x.compare(0, 0), 1);
        asks("told", SOME, x -> x.told(2, 5), 3);
        asks("item", SOME, x -> x.item(1, 1), 1);
        says("Quotients are cut.");
        CircleTints x = net("points 2");
        x.fraction(0, -7, 2);
        due("towards 0", x.told(0, 2), -3);
        fill(x, 0, 0, 0, 5);
        due("5 by 2, 6 by 2", x.rounds(0, 6, 2, 1), 3);
        dueRow("5 by 2", x, 1, 0, 2);
    }

    private static void pointsAndLines() {
        says("==== 1. POINTS are 0, 1, .. as they come (6 at most).");
        CircleTints x = new CircleTints();
        due("0 and 1", x.points(2), 2);
        due("POINT 1", x.list(1, 5), ALL);
        due("2 to 5", x.points(4), 6);
        due("POINT 1 is the same", x.list(1, 5), 5);
        due("POINT 5", x.list(5, 5), ALL);
        due("no seventh", x.points(1), FULL);
        says("LINES are 0, 1, .. as they come (10 at most; where one goes, those behind it are 1 less),");
        due("LINE 0", x.line(0, 1, 4, 5), 0);
        due("LINE 1", x.line(0, 2, 1, 0), 1);
        due("LINE 2", x.line(0, 3, 3, 1), 2);
        due("LINE 0 goes", x.drop(0), 2);
        due("what was 1 is 0", x.lineOf(0, 1), 2);
        due("what was 2 is 1", x.lineOf(1, 1), 3);
        due("no LINE 2", x.lineOf(2, 1), BAD);
        due("ten", net(TEN_LINES).count(1), 10);
        refuses("10 at most", () -> net(TEN_LINES), y -> y.line(0, 1, 0, 5), FULL);
        says("each between two unlike POINTS (its lesser, its greater one), one at most between two, of a KIND, with a FIGURE (1 to 3).");
        due("lesser", x.lineOf(1, 3), 1);
        due("greater", x.lineOf(1, 4), 3);
        due("unlike", x.line(0, 1, 2, 2), BAD);
        due("one at most", x.line(1, 2, 1, 3), STATE);
        due("KIND", x.change(1, 0, 4), 0);
        for (int figure = 0; figure <= 4; figure++) due("FIGURE " + figure, Math.min(0, x.change(1, 1, figure)), figure % 4 == 0 ? BAD : 0);
        gaps();
        says("Sets of LINES, of POINTS are told as bits.");
        x = net("points 6;line plain 1 0 1;round plain 1 3 5");
        due("LINES 1, 2, 3", x.ring(4, 0), 14);
        due("POINTS 3, 4, 5", x.ring(4, 1), 56);
        says("LIST of a POINT: a set of places 0 to 39 (a long, bits; all 40 at first).");
        due("all 40", x.list(0, 1L << 39 | 1), (1L << 40) - 1);
        due("places 0 and 39", x.list(0, 0), 549755813889L);
        due("place 40", x.list(0, 1L << 40), NO + BAD);
    }

    private static void dueGaps(String what, int kind, long... dues) {
        // FIGURES 1 to 3 of 1 and 4, then of 1 and 3
        for (int i = 0; i < 6; i++) {
            CircleTints x = net("points 5");
            x.line(kind, 1 + i % 3, i < 3 ? 4 : 3, 1);
            due(what + ", " + i, x.lineOf(0, 2), dues[i]);
        }
    }

    private static void gaps() {
        says("GAP: KIND 0 PLAIN: FIGURE.");
        dueGaps("PLAIN", 0, 1, 2, 3, 1, 2, 3);
        says("1 WIDE: 1 more.");
        dueGaps("WIDE", 1, 2, 3, 4, 2, 3, 4);
        says("2 THIN: 1 less, 1 at least.");
        dueGaps("THIN", 2, 1, 1, 2, 1, 1, 2);
        says("3 SPAN: its greater POINT less its lesser one.");
        dueGaps("SPAN", 3, 3, 3, 3, 2, 2, 2);
        says("4 EVEN: 2, if its POINTS' numbers together are even, else FIGURE.");
        dueGaps("EVEN", 4, 1, 2, 3, 2, 2, 2);
    }

    private static void colourings() {
        says("COLOURING by p, q: each POINT has a place 0 to p - 1;");
        CircleTints x = net("points 2;line plain 2 0 1");
        fill(x, 0, 1, 0, 8);
        due("place 8 of 9", x.judge(0, 9, 1), 1);
        due("place 8 of 8", x.judge(0, 8, 1), 1);
        fill(x, 0, 1, -1, 2);
        due("place -1", x.judge(0, 9, 1), 0);
        says("for each LINE the two places are, one way round and the other way round a circle of p places, q times its GAP or more apart.");
        for (int at = 0; at < 9; at++) {
            fill(x, 0, 0, 0, at);
            due("2 or more of 9 apart both ways, " + at, x.judge(0, 9, 1), at >= 2 && at <= 7 ? NONE : 1);
            due("4 or more of 9 apart both ways, " + at, x.judge(0, 9, 2), at == 4 || at == 5 ? NONE : 1);
        }
        says("By LISTS: each place is in its POINT's LIST.");
        x.list(0, 2);
        x.list(1, 12);
        due("1 and 2 or 3", x.ways(5, 1, 1), 1);
        due("3", x.place(5, 1, 1, 1), 3);
        x.list(1, 4);
        due("1 and 2", x.fits(5, 1, 1), 0);
        says("The FIRST COLOURING: that whose row (of POINT 0 first) is least where they are unlike first.");
        x = net("points 3;line plain 2 0 2;line plain 1 1 2");
        x.paint(0, 4, 1, 0);
        dueRow("first", x, 0, firstByHand(x));
        dueRow("0 0 2", x, 0, 0, 0, 2);
    }

    /** Of three POINTS by 4, 1: goes through all rows in their order. */
    private static long[] firstByHand(CircleTints x) {
        for (int row = 0; row < 64; row++) {
            long[] places = {row / 16, row / 4 % 4, row % 4};
            fill(x, 1, 0, places);
            if (x.judge(1, 4, 1) == NONE) return places;
        }
        return new long[0];
    }

    private static void rings() {
        says("==== 2. RING: a set of LINES that is one LINE alone (gone there and back),");
        CircleTints x = net("points 2;line plain 3 0 1");
        due("one alone", x.rings() * 10 + x.ring(0, 0), 11);
        says("or three or more that go round once: each POINT that has one of them has two, and all hang together.");
        due("three round", net("points 3;round plain 1 0 2").ring(3, 0), 7);
        due("three at one POINT", net("points 4;line plain 1 0 1;line plain 1 0 2;line plain 1 0 3").rings(), 3);
        due("a POINT that has four", net("points 5;round plain 1 0 2;round plain 1 2 4").rings(), 6 + 2);
        due("two that don't hang together", net("points 6;round plain 1 0 2;round plain 1 3 5").rings(), 6 + 2);
        says("LENGTH: their GAPS together, of one alone twice.");
        due("twice", x.ring(0, 2), 6);
        x = net("points 3;line plain 2 0 1;line plain 1 1 2;line plain 3 0 2");
        due("together", x.ring(3, 2), 6);
        says("RINGS are numbered from 0 on as their sets are as numbers.");
        x = net("points 4;round plain 1 0 2;round plain 1 0 3");
        int[] sets = {1, 2, 4, 7, 8, 16, 27, 28};
        for (int i = 0; i < 8; i++) due("RING " + i, x.ring(i, 0), sets[i]);
        due("no RING 8", x.ring(8, 0), NONE);
    }

    private static void turns() {
        says("TURN: a set of LINES; a LINE of it points from its greater POINT to its lesser one, each other one the other way.");
        says("A TURN is CIRCLED, if there is a RING of three or more that can be gone round along all its LINES as they point.");
        CircleTints x = net("points 3;line plain 1 0 1;line plain 1 1 2;line plain 1 2 0");
        // 0 to 1, 1 to 2, then 2 to 0; or 1 to 0, 2 to 1, then 0 to 2
        for (int turn = 0; turn < 8; turn++) due("TURN " + turn, x.circled(turn), turn == 4 || turn == 3 ? 1 : 0);
        due("one alone never", net("points 2;line plain 1 0 1").circled(1), 0);
        says("RATE of a RING by a TURN that isn't CIRCLED: LENGTH of (by) how many of its LINES are gone along as one goes round it"
            + " one way or the other, whichever are fewer (of one alone: 1).");
        x = FIVE.make();
        dueRatio("one against four", x.rate(0, 0), x.rate(0, 1), 5, 1);
        dueRatio("two against three", x.rate(1, 0), x.rate(1, 1), 5, 2);
        dueRatio("three against two", x.rate(30, 0), x.rate(30, 1), 5, 2);
        x = net("points 2;line plain 3 0 1");
        dueRatio("of one alone", x.rate(1, 0), x.rate(1, 1), 6, 1);
        says("RATE of a TURN: the greatest of all RINGS'.");
        x = net("points 6;round plain 1 0 4;line wide 1 4 5");
        dueRatio("5 of 2, but 4 of 1", x.rate(1, 0), x.rate(1, 1), 4, 1);
        dueRatio("5 of 1, and 4 of 1", x.rate(0, 0), x.rate(0, 1), 5, 1);
        says("RATIO: the least RATE of all TURNS that aren't CIRCLED; 1, if there are no LINES.");
        dueRatio("4 of 1 by TURN 1", x.ratio(0), x.ratio(1), 4, 1);
        dueRatio("of five", FIVE.make().ratio(0), FIVE.make().ratio(1), 5, 2);
        dueRatio("no LINES", NO_LINES.make().ratio(0), NO_LINES.make().ratio(1), 1, 1);
        dueRatio("no POINTS", EMPTY.make().ratio(0), EMPTY.make().ratio(1), 1, 1);
        says("WHOLE: the least p for which there is a COLOURING by p, 1.");
        x = FIVE.make();
        due("3", x.whole(), 3);
        due("by 3, not by 2", x.fits(3, 1, 0) * 10 + x.fits(2, 1, 0), 10);
    }

    private static void tightness() {
        says("TIGHT: a LINE is TIGHT from a to b by places, p, q: b's place is a's place and q times its GAP, modulo p.");
        CircleTints x = net("points 2;line plain 2 0 1");
        for (int at = 4; at <= 5; at++) {
            fill(x, 0, 0, 0, at);
            due("from 0 to 1, or from 1 to 0 modulo 9", x.arcs(0, 9, 2), 1);
        }
        fill(x, 0, 0, 0, 3);
        due("neither way", x.arcs(0, 9, 1), 0);
        says("A TIGHT RING can be gone round, one way or the other, by LINES that are TIGHT from each POINT to the next"
            + " (one alone: from each to the other).");
        due("one way alone", x.tight(0, 5, 1, 0), NONE);
        fill(x, 0, 0, 3, 1);
        due("from each to the other", x.tight(0, 4, 1, 0), 1);
        x = net("points 3;round plain 1 0 2");
        fill(x, 0, 0, 0, 2, 4);
        due("one way", x.tight(0, 6, 2, 0), 7);
        fill(x, 0, 0, 4, 2, 0);
        due("the other way", x.tight(0, 6, 2, 0), 7);
        due("not TIGHT from 2 to 0", x.tight(0, 7, 2, 0), NONE);
    }

    private static void holdsAndSheets() {
        says("==== 3. HOLDS 0 to 3 hold nothing (at first), a FRACTION, a LINE (KIND, FIGURE, its two POINTS, as it was then),"
            + " or a ROW (sort and numbers of a SHEET, as they were then).");
        CircleTints x = net("points 4;line even 3 1 2");
        fill(x, 0, 1, 7, 8);
        for (int h = 0; h < 4; h++) due("nothing in HOLD " + h, x.told(h, 0), NO + MISSING);
        for (int h = -1; h <= 4; h += 5) due("no HOLD " + h, x.told(h, 0), NO + BAD);
        due("a FRACTION", x.fraction(0, 1, 2), 1);
        due("a LINE", x.hold(1, 0, 0), 1);
        due("a ROW", x.hold(3, 1, 0), 1);
        x.change(0, 1, 1);
        x.drop(0);
        x.sheet(0, 0, 1);
        due("KIND of then", x.told(1, 3), 4);
        due("GAP by FIGURE and POINTS of then", x.told(1, 4), 3);
        due("numbers of then", x.told(3, 5) * 100 + x.told(3, 6), 215);
        says("FRACTIONS have longs above and below the line, are always in lowest terms, with more than 0 below.");
        due("longs", x.fraction(0, MOST, MOST - 1), 1);
        dueFraction("longs", x, 0, MOST, MOST - 1);
        due("lowest terms, more than 0 below", x.fraction(0, 6, -4), 1);
        dueFraction("lowest terms, more than 0 below", x, 0, -3, 2);
        x.fraction(1, 5, 2);
        x.does(0, 0, 1);
        dueFraction("lowest terms of a sum", x, 0, 1, 1);
        says("SHEETS 0 to 3 are rows of ints (sort 0) or longs (1), 40 numbers at most, or missing (at first).");
        for (int s = 1; s < 4; s++) due("SHEET " + s + " is missing", x.item(s, 0), NO + MISSING);
        for (int s = -1; s <= 4; s += 5) due("no SHEET " + s, x.item(s, 0), NO + BAD);
        due("ints", x.sheet(1, 0, 40) * 10 + x.write(1, 39, 1L << 31), 10 + MUCH);
        due("longs", x.sheet(2, 1, 40) * 10 + x.write(2, 39, 1L << 31), 11);
        due("40 at most", x.sheet(3, 1, 41), BAD);
    }

    private static void drawsAndImage() {
        says("A DRAW: z (an int; 1 at first) becomes z * 1103515245 + 12345, the DRAW is z >>> 16.");
        CircleTints x = new CircleTints();
        due("1 at first", x.count(3), 1);
        due("16838, whose rest is 8", x.deal(2, 8), 0);
        due("z", x.count(3), 1103527590);
        x.seed(1);
        due("8 is below 9", x.deal(2, 9), 1);
        x.seed(3);
        due("50515, whose rest is 5, though z is below 0", x.deal(2, 5), 0);
        due("z wraps", x.count(3), -984409216);
        x.seed(3);
        due("5 is below 6", x.deal(2, 6), 1);
        says("THE IMAGE keeps POINTS, LINES, LISTS and z.");
        x = net("points 3;line wide 2 0 2;list 1 4 5");
        x.seed(-8);
        x.image();
        x.deal(6, 10);
        x.back();
        due("POINTS", x.count(0), 3);
        due("LINES", x.count(1) * 100 + x.lineOf(0, 0) * 10 + x.lineOf(0, 1), 112);
        due("LISTS", x.list(1, 0), 48);
        due("z", x.count(3), -8);
    }

    private static void dueFault(String net, String text, int place) {
        refuses("FAULT in '" + text + "'", net.isEmpty() ? EMPTY : () -> net(net), x -> read(x, text), -100 - place);
    }

    private static void dueRead(String net, String text, int items) {
        CircleTints x = net.isEmpty() ? new CircleTints() : net(net);
        due("'" + text + "'", read(x, text), items);
    }

    private static void tokens() {
        says("A TEXT is read from THE TAPE (bytes, 120 at most).");
        dueRead("", "points 6" + " ".repeat(112), 1);
        refuses("120 at most", FILLED, x -> x.feed(' ', 1), FULL);
        says("TOKENS, each as long as can be: WORDS (a to z), NUMBERS (digits, 999 at most in value), the SIGN ; and blanks (32)"
            + " may stand between.");
        dueFault("points 2", "list 00 39", 10);
        dueFault("", "pointspoints 1", 0);
        dueFault("", "POINTS 1", 0);
        dueRead("", "points 0000000006", 1);
        dueFault("", "points 1000", 7);
        dueRead("", "points1;points1", 2);
        dueRead("", "  points  1  ;  points  1  ", 2);
        dueFault("", "points\t1", 6);
        says("TEXT: ITEM { ; ITEM }.");
        dueRead("points 1", "points 1", 1);
        dueRead("points 1", "points 1;points 1;list 0 1 1", 3);
        dueFault("", "points 1 points 1", 9);
        dueFault("", ";points 1", 0);
        dueFault("", "points 1;;points 1", 9);
    }

    private static void items() {
        says("ITEM: points NUMBER (so many POINTS more, 1 or more, for which there is room);");
        CircleTints x = net("points 2");
        due("so many more", read(x, "points 3") * 10 + x.count(0), 15);
        dueFault("", "points 0", 7);
        dueFault("points 5", "points 2", 7);
        says("line KIND NUMBER POINT POINT (KIND: plain wide thin span even; NUMBER: FIGURE; POINT: the NUMBER of one that there is;"
            + " a LINE between two unlike ones that have none);");
        String[] kinds = {"plain", "wide", "thin", "span", "even"};
        for (int kind = 0; kind < 5; kind++) {
            x = net("points 2;line " + kinds[kind] + " 3 1 0");
            due("KIND " + kinds[kind], x.lineOf(0, 0), kind);
            due("FIGURE, POINTS", x.lineOf(0, 1) * 100 + x.lineOf(0, 3) * 10 + x.lineOf(0, 4), 301);
        }
        dueFault("points 2", "line plain 4 0 1", 11);
        dueFault("points 2", "line plain 1 2 1", 13);
        dueFault("points 2", "line plain 1 1 1", 15);
        dueFault("points 2;line wide 1 0 1", "line plain 1 1 0", 15);
        says("round KIND NUMBER POINT POINT (LINES from the first POINT to the next one, and so on up to the second, a greater one,"
            + " then from the lesser to the greater; each that there isn't yet, while there is room);");
        x = net("points 5;line wide 2 2 3;round thin 3 1 4");
        int[] dues = {1223, 2312, 2334, 2314};
        for (int l = 0; l < 4; l++) {
            due("LINE " + l, x.lineOf(l, 0) * 1000 + x.lineOf(l, 1) * 100 + x.lineOf(l, 3) * 10 + x.lineOf(l, 4), dues[l]);
        }
        due("no more", x.count(1), 4);
        dueFault("points 5", "round thin 3 4 1", 15);
        x = net(TEN_LINES);
        due("no room, no FAULT", read(x, "round plain 1 0 5") * 100 + x.count(1), 110);
        says("list POINT NUMBER NUMBER (its LIST becomes all places from the first to the second, no less, 39 at most).");
        x = net("points 2;list 1 3 5");
        due("3 to 5", x.list(1, 0), 56);
        due("another's stays", x.list(0, 0), ALL);
        dueRead("points 1", "list 0 39 39", 1);
        dueFault("points 1", "list 0 5 4", 9);
        dueFault("points 1", "list 0 5 40", 9);
    }

    private static void faults() {
        says("FAULT: the place (from 0) of the first byte of the first TOKEN that can't stand there (another WORD;"
            + " a NUMBER that isn't as told; the WORD line while there are 10 LINES; a byte that begins no TOKEN),"
            + " or how many bytes there are, if it ends too early.");
        dueFault("", "pints 1", 0);
        dueFault("points 2", "points 1; line plane 1 0 1", 15);
        dueFault("points 2", "points 1; points 9", 17);
        dueFault(TEN_LINES, " line plain 1 0 5", 1);
        dueFault("", "points 1 !", 9);
        dueFault("", "", 0);
        dueFault("", "points ", 7);
        dueFault("", "points 1;", 9);
        says("With a FAULT nothing comes of it.");
        dueFault("points 3;line plain 1 0 1", "points 1;line wide 1 0 2;round wide 1 0 3;list 0 1 1;points 3", 60);
    }

    private static void ahead(String source, String calls, String words) {
        says("Ahead of the calls `" + calls.replace(" ", "`, `") + "` the interface says: ---- " + words);
        int at = source.indexOf("    // ---- " + words.replaceAll("(?<!\\.)\\.$", "") + "\n");
        if (at < 0) fault("the class has no part: " + words);
        for (String call : calls.split(" ")) {
            int next = source.indexOf(" " + call + "(", source.indexOf("\n    public ", at));
            if (next < at || next != source.indexOf("(", source.indexOf("\n    public ", at)) - call.length() - 1) {
                fault(call + " does not come next in: " + words);
            }
            at = Math.max(at, next);
        }
    }

    private static void theInterface() {
        String source = "";
        try {
            source = Files.readString(Path.of("src/main/java/CircleTints.java"));
        } catch (IOException e) {
            fault("no class to read");
        }
        ahead(source, "points line lineOf change drop list count", "the net.");
        ahead(source, "fits place ways ratio whole off", "colourings.");
        ahead(source, "rings ring circled rate worst turns binds room", "rings, turns.");
        ahead(source, "judge arcs tight rounds", "told colourings: numbers of a sheet are places of points 0, 1, ..");
        ahead(source, "next", "fractions that come next.");
        ahead(source, "fraction hold does compare told", "holds.");
        ahead(source, "feed wipe text", "texts.");
        ahead(source, "seed deal", "draws.");
        ahead(source, "sheet write item copy paint image back", "sheets, the image.");
    }

    // ---- the promises

    private static void promises1To4() {
        says("`CircleTints()`: No POINTS, nothing held, no IMAGE.");
        due("1 no POINTS", new CircleTints().count(0), 0);
        due("1 nothing held", new CircleTints().told(0, 0), NO + MISSING);
        due("1 no IMAGE", new CircleTints().back(), STATE);
        says("`int points(int n)`: n POINTS more (1 to 6): how many there are.");
        for (int n = 1; n <= 6; n++) due("2 how many", new CircleTints().points(n), n);
        due("2 more", net("points 2").points(3), 5);
        says("BAD; FULL: they have not all room.");
        bounds("2 BAD", EMPTY, (x, n) -> x.points(n), 1, 6, BAD);
        refuses("2 FULL", SOME, x -> x.points(3), FULL);
        says("`int line(int kind, int figure, int a, int b)`: A LINE: its number.");
        due("3 its number", SOME.make().line(4, 3, 3, 1), 5);
        says("BAD: kind, figure, no such two POINTS, one and the same; STATE: these have one; FULL.");
        refuses("3 kind", SOME, x -> x.line(5, 1, 1, 3), BAD);
        refuses("3 figure", SOME, x -> x.line(0, 4, 1, 3), BAD);
        refuses("3 no such two POINTS", SOME, x -> x.line(0, 1, 1, 4), BAD);
        refuses("3 one and the same", SOME, x -> x.line(0, 1, 3, 3), BAD);
        refuses("3 these have one", SOME, x -> x.line(0, 1, 3, 2), STATE);
        refuses("3 FULL", FILLED, x -> x.line(0, 1, 5, 4), FULL);
        says("`int lineOf(int l, int what)`: Of a LINE: 0 KIND, 1 FIGURE, 2 GAP, 3 its lesser POINT, 4 its greater one.");
        int[] dues = {1, 2, 3, 0, 2};
        for (int w = 0; w < 5; w++) due("4 of a LINE, " + w, SOME.make().lineOf(0, w), dues[w]);
        says("BAD.");
        refuses("4 no such LINE", SOME, x -> x.lineOf(5, 0), BAD);
        refuses("4 no such thing", SOME, x -> x.lineOf(0, 5), BAD);
    }

    private static void promises5To8() {
        says("`int change(int l, int what, int v)`: KIND (what 0), FIGURE (1) of a LINE becomes v: what it was.");
        CircleTints x = SOME.make();
        due("5 KIND", x.change(0, 0, 2) * 10 + x.lineOf(0, 0), 12);
        due("5 FIGURE", x.change(0, 1, 3) * 10 + x.lineOf(0, 1), 23);
        says("BAD.");
        refuses("5 no such KIND", SOME, y -> y.change(0, 0, 5), BAD);
        refuses("5 no such FIGURE", SOME, y -> y.change(0, 1, 0), BAD);
        refuses("5 no such LINE", SOME, y -> y.change(5, 1, 1), BAD);
        refuses("5 no such thing", SOME, y -> y.change(0, 2, 1), BAD);
        says("`int drop(int l)`: A LINE goes: how many there are.");
        due("6 how many", x.drop(4), 4);
        due("6 it is gone", x.line(0, 1, 0, 3), 4);
        says("BAD.");
        refuses("6 no such LINE", SOME, y -> y.drop(5), BAD);
        says("`long list(int p, long places)`: LIST of a POINT becomes a set: what it was.");
        due("7 what it was", x.list(1, 6), 16);
        due("7 what it is", x.list(1, 0), 6);
        says("NO and BAD: no such POINT, a bit beyond 39.");
        refuses("7 no such POINT", SOME, y -> y.list(4, 1), NO + BAD);
        refuses("7 a bit beyond 39", SOME, y -> y.list(0, 1L << 40), NO + BAD);
        says("`int count(int what)`: 0 POINTS, 1 LINES, 2 all GAPS together, 3 z, 4 bytes of THE TAPE.");
        // GAPS: wide 2, plain 1, thin 1, even 3 of 2 and 3, span of 0 and 3
        int[] dues = {4, 5, 3 + 1 + 1 + 3 + 3, 77, 19};
        for (int w = 0; w < 5; w++) due("8 count " + w, SOME.make().count(w), dues[w]);
        says("BAD.");
        bounds("8 what", SOME, (y, w) -> y.count(w), 0, 4, BAD);
    }

    private static void promises9To11() {
        says("`int fits(int p, int q, int lists)`: 1 if there is a COLOURING by p (1 to 40; by LISTS 1 to 16), q (1 to 6),"
            + " by LISTS (lists 1) or not (0), else 0.");
        Scene two = () -> net("points 2;line plain 1 0 1;list 0 0 1;list 1 1 1");
        asks("9 there is", two, x -> x.fits(2, 1, 1), 1);
        asks("9 there is none", two, x -> x.fits(3, 2, 0), 0);
        asks("9 none by LISTS", two, x -> x.fits(4, 2, 1), 0);
        asks("9 not by LISTS", two, x -> x.fits(4, 2, 0), 1);
        asks("9 by 40, 6", two, x -> x.fits(40, 6, 0), 1);
        asks("9 by 16 by LISTS", two, x -> x.fits(16, 1, 1), 1);
        says("BAD.");
        refuses("9 p", two, x -> x.fits(41, 6, 0), BAD);
        refuses("9 p by LISTS", two, x -> x.fits(17, 1, 1), BAD);
        refuses("9 q", two, x -> x.fits(40, 7, 0), BAD);
        refuses("9 lists", two, x -> x.fits(16, 1, 2), BAD);
        says("`int place(int p, int q, int lists, int point)`: The place of a POINT in the FIRST of them.");
        int[] dues = {0, 2, 4, 1, 3};
        for (int p = 0; p < 5; p++) due("10 place of " + p, FIVE.make().place(5, 2, 0, p), dues[p]);
        asks("10 by LISTS", two, x -> x.place(5, 1, 1, 1), 1);
        says("BAD: also no such POINT; NONE.");
        refuses("10 BAD", two, x -> x.place(0, 1, 0, 0), BAD);
        refuses("10 no such POINT", two, x -> x.place(5, 1, 0, 2), BAD);
        refuses("10 NONE", two, x -> x.place(1, 1, 0, 0), NONE);
        says("`int ways(int p, int q, int lists)`: How many COLOURINGS by p (1 to 8), q (1 to 6) there are, (lists 1) by LISTS.");
        asks("11 by 5, 1: four others for each of five", two, x -> x.ways(5, 1, 0), 20);
        asks("11 by 5, 2: two others for each of five", two, x -> x.ways(5, 2, 0), 10);
        asks("11 by LISTS", two, x -> x.ways(8, 1, 1), 1);
        asks("11 none for 6", two, x -> x.ways(8, 6, 0), 0);
        says("BAD.");
        refuses("11 p", two, x -> x.ways(9, 1, 0), BAD);
        refuses("11 q", two, x -> x.ways(8, 7, 0), BAD);
        refuses("11 lists", two, x -> x.ways(8, 1, -1), BAD);
    }

    private static void promises12To14() {
        says("`int ratio(int part)`: RATIO in lowest terms: 0 above, 1 below the line.");
        // five round of GAPS 2 2 2 2 2: 10 of 2
        Scene wide = () -> net("points 5;round wide 1 0 4");
        asks("12 above", wide, x -> x.ratio(0), 5);
        asks("12 below", wide, x -> x.ratio(1), 1);
        says("BAD.");
        refuses("12 part", wide, x -> x.ratio(2), BAD);
        says("`int whole()`: WHOLE.");
        asks("13 WHOLE", FIVE, x -> x.whole(), 3);
        says("NONE: there are no POINTS.");
        refuses("13 no POINTS", EMPTY, x -> x.whole(), NONE);
        asks("13 no LINES", NO_LINES, x -> x.whole(), 1);
        says("`int off(int part)`: WHOLE less RATIO, in lowest terms (0 of 1): 0 above, 1 below the line.");
        asks("14 3 less 5 of 2, above", FIVE, x -> x.off(0), 1);
        asks("14 3 less 5 of 2, below", FIVE, x -> x.off(1), 2);
        asks("14 0", wide, x -> x.off(0), 0);
        asks("14 of 1", wide, x -> x.off(1), 1);
        says("BAD; NONE: there are no LINES.");
        refuses("14 part", NO_LINES, x -> x.off(-1), BAD);
        refuses("14 no LINES", NO_LINES, x -> x.off(0), NONE);
    }

    private static void promises15To17() {
        says("`int rings()`: How many RINGS there are.");
        asks("15 five alone, one round", FIVE, x -> x.rings(), 6);
        asks("15 none", NO_LINES, x -> x.rings(), 0);
        says("`int ring(int i, int what)`: Of RING i: 0 LINES (bits), 1 POINTS (bits), 2 LENGTH.");
        Scene late = () -> net("points 6;line plain 2 1 2;round plain 3 3 5");
        asks("16 LINES", late, x -> x.ring(4, 0), 14);
        asks("16 POINTS", late, x -> x.ring(4, 1), 56);
        asks("16 LENGTH", late, x -> x.ring(4, 2), 9);
        asks("16 POINTS of one alone", late, x -> x.ring(0, 1), 6);
        asks("16 LENGTH of one alone", late, x -> x.ring(0, 2), 4);
        says("BAD; NONE: no such RING.");
        refuses("16 BAD", late, x -> x.ring(5, 3), BAD);
        refuses("16 no such RING", late, x -> x.ring(5, 0), NONE);
        refuses("16 none below 0", late, x -> x.ring(-1, 0), NONE);
        says("`int circled(int turn)`: 1 if a TURN is CIRCLED, else 0.");
        // 0 to 1 to 2 to 3 to 4, and LINE 4 from 4 to 0
        asks("17 CIRCLED", FIVE, x -> x.circled(16), 1);
        asks("17 CIRCLED the other way", FIVE, x -> x.circled(15), 1);
        asks("17 not CIRCLED", FIVE, x -> x.circled(17), 0);
        says("BAD: it has one that is no LINE.");
        refuses("17 LINE 5", FIVE, x -> x.circled(32), BAD);
        refuses("17 all bits", FIVE, x -> x.circled(-1), BAD);
    }

    private static void promises18To20() {
        says("`int rate(int turn, int part)`: RATE of a TURN, in lowest terms: 0 above, 1 below the line.");
        Scene wide = () -> net("points 5;round wide 1 0 4");
        asks("18 10 of 2, above", wide, x -> x.rate(1, 0), 5);
        asks("18 10 of 2, below", wide, x -> x.rate(1, 1), 1);
        says("BAD; STATE: it is CIRCLED; NONE: there are no LINES.");
        refuses("18 turn", FIVE, x -> x.rate(32, 0), BAD);
        refuses("18 part", FIVE, x -> x.rate(16, 2), BAD);
        refuses("18 CIRCLED", FIVE, x -> x.rate(16, 0), STATE);
        refuses("18 no LINES", NO_LINES, x -> x.rate(0, 0), NONE);
        says("`int worst(int turn)`: The least RING (as a set) whose RATE by a TURN is that of the TURN.");
        asks("19 all five", FIVE, x -> x.worst(1), 31);
        // by TURN 0 both threes have 3 of 1: LINES 0 1 2 and 3 4 5
        asks("19 the least of two", () -> net("points 6;round plain 1 0 2;round plain 1 3 5"), x -> x.worst(0), 7);
        says("BAD; STATE; NONE likewise.");
        refuses("19 BAD", FIVE, x -> x.worst(32), BAD);
        refuses("19 STATE", FIVE, x -> x.worst(16), STATE);
        refuses("19 NONE", NO_LINES, x -> x.worst(0), NONE);
        says("`int turns(int what)`: TURNS: 0 how many aren't CIRCLED, 1 how many of those have RATIO as their RATE,"
            + " 2 the least of these (as a set).");
        asks("20 32 less two", FIVE, x -> x.turns(0), 30);
        asks("20 two of five against three, or three against two", FIVE, x -> x.turns(1), 20);
        asks("20 the least", FIVE, x -> x.turns(2), 1);
        says("BAD; NONE (of 1, 2): there are no LINES.");
        refuses("20 BAD", NO_LINES, x -> x.turns(3), BAD);
        refuses("20 NONE of 1", NO_LINES, x -> x.turns(1), NONE);
        refuses("20 NONE of 2", NO_LINES, x -> x.turns(2), NONE);
        asks("20 not of 0", NO_LINES, x -> x.turns(0), 1);
    }

    private static void promises21And22() {
        says("`int binds()`: LINES without which (each by itself) RATIO would be less, as a set.");
        asks("21 all five", FIVE, x -> x.binds(), 31);
        asks("21 not a sixth", () -> net(ROUND + ";points 1;line plain 1 4 5"), x -> x.binds(), 31);
        asks("21 each by itself: either of two keeps it", () -> net("points 3;line plain 2 0 1;line plain 2 1 2"), x -> x.binds(), 0);
        asks("21 the one that is there", () -> net("points 2;line plain 1 0 1"), x -> x.binds(), 1);
        says("`int room(int l)`: The most (0 to 9) by which GAP of a LINE could be more, RATIO staying as it is.");
        // three wide 3 have RATIO 12: there and back 2 * (1 + 5)
        Scene wide = () -> net("points 5;round wide 3 0 2;line plain 1 3 4");
        asks("22 five more", wide, x -> x.room(3), 5);
        asks("22 none", wide, x -> x.room(0), 0);
        says("BAD.");
        refuses("22 no such LINE", wide, x -> x.room(4), BAD);
    }

    private static void promises23And24() {
        says("`int judge(int s, int p, int q)`: The first POINT whose place isn't 0 to p - 1, or isn't far enough from that of a lesser"
            + " POINT with which it has a LINE, by p (1 to 40), q (1 to 6); NONE: it is a COLOURING.");
        CircleTints x = net("points 4;line plain 1 0 3;line plain 2 1 2");
        long[][] rows = {{0, 0, 2, 1}, {9, 0, 2, 1}, {0, -1, 2, 1}, {0, 0, 1, 0}, {0, 0, 8, 1}, {0, 0, 2, 0}};
        int[] dues = {NONE, 0, 1, 2, 2, 3};
        for (int i = 0; i < 6; i++) {
            fill(x, 0, i % 2, rows[i]);
            due("23 row " + i, x.judge(0, 9, 1), dues[i]);
        }
        says("BAD; -11; -12: fewer numbers than POINTS.");
        refuses("23 s", SOME, y -> y.judge(4, 9, 1), BAD);
        refuses("23 p", SOME, y -> y.judge(0, 41, 1), BAD);
        refuses("23 q", SOME, y -> y.judge(0, 9, 7), BAD);
        refuses("23 missing", SOME, y -> y.judge(3, 9, 1), MISSING);
        refuses("23 fewer", SOME, y -> y.judge(1, 9, 1), OUTSIDE);
        says("`int arcs(int s, int p, int q)`: How many LINES are TIGHT in it, both ways counted.");
        x = net("points 3;line plain 1 0 1;line plain 1 1 2");
        fill(x, 0, 0, 0, 1, 2);
        due("24 one way each", x.arcs(0, 5, 1), 2);
        fill(x, 0, 0, 0, 1, 0);
        due("24 both ways each", x.arcs(0, 2, 1), 4);
        says("BAD; -11; -12; STATE: it is no COLOURING.");
        refuses("24 BAD", SOME, y -> y.arcs(3, 41, 1), BAD);
        refuses("24 missing", SOME, y -> y.arcs(3, 9, 1), MISSING);
        refuses("24 fewer", SOME, y -> y.arcs(1, 9, 1), OUTSIDE);
        refuses("24 no COLOURING", SOME, y -> y.arcs(2, 9, 1), STATE);
    }

    private static void promises25And26() {
        says("`int tight(int s, int p, int q, int what)`: Its least TIGHT RING (as a set): 0 that, 1 how often it goes round"
            + " (q times its LENGTH, by p).");
        CircleTints x = net("points 6;round plain 1 0 2;round plain 1 3 5");
        fill(x, 0, 0, 0, 2, 5, 0, 2, 4);
        due("25 the second three, as by 6 the first isn't", x.judge(0, 6, 2), 2);
        fill(x, 0, 0, 0, 2, 4, 4, 2, 0);
        due("25 the least of two", x.tight(0, 6, 2, 0), 7);
        due("25 2 times 3 by 6", x.tight(0, 6, 2, 1), 1);
        x = FIVE.make();
        fill(x, 0, 0, 0, 2, 4, 1, 3);
        due("25 2 times 5 by 5", x.tight(0, 5, 2, 1), 2);
        says("BAD; -11; -12; STATE; NONE: it has none.");
        refuses("25 BAD", SOME, y -> y.tight(3, 9, 1, 2), BAD);
        refuses("25 missing", SOME, y -> y.tight(3, 9, 1, 0), MISSING);
        refuses("25 fewer", SOME, y -> y.tight(1, 9, 1, 0), OUTSIDE);
        refuses("25 no COLOURING", SOME, y -> y.tight(2, 9, 1, 0), STATE);
        due("25 none", x.paint(0, 6, 2, 0) * 10 + x.tight(0, 6, 2, 0), 50 + NONE);
        says("`int rounds(int s, int p, int q, int t)`: SHEET t truly becomes a row of ints, as many as there are POINTS: its places by q"
            + " (cut): for how many whole colours (p by q, more by 1 where that is cut).");
        fill(x, 0, 1, 0, 2, 4, 1, 3, MOST, MOST);
        x.sheet(1, 1, 40);
        due("26 5 by 2, more by 1", x.rounds(0, 5, 2, 1), 3);
        dueRow("26 places by 2", x, 1, 0, 1, 2, 0, 1);
        due("26 ints", x.write(1, 0, MOST), MUCH);
        due("26 into itself", x.rounds(0, 5, 2, 0), 3);
        dueRow("26 itself", x, 0, 0, 1, 2, 0, 1);
        due("26 3 by 1, not cut", x.rounds(0, 3, 1, 3), 3);
        says("BAD: SHEETS, p, q; -11, -12, STATE (of SHEET s).");
        refuses("26 s", SOME, y -> y.rounds(4, 9, 1, 0), BAD);
        refuses("26 t", SOME, y -> y.rounds(3, 9, 1, 4), BAD);
        refuses("26 p", SOME, y -> y.rounds(3, 0, 1, 0), BAD);
        refuses("26 q", SOME, y -> y.rounds(3, 9, 0, 0), BAD);
        refuses("26 missing", SOME, y -> y.rounds(3, 9, 1, 0), MISSING);
        refuses("26 fewer", SOME, y -> y.rounds(1, 9, 1, 0), OUTSIDE);
        refuses("26 no COLOURING", SOME, y -> y.rounds(2, 9, 1, 3), STATE);
    }

    private static void promises27And28() {
        says("`int next(int p, int q, int n, int side, int part)`: The fraction next to p of q (p 0 to 9999, q 1 to 9999) whose lower part"
            + " is n (1 to 9999) or less: side 0 the greatest that is less (from 0 on), 1 the least that is more; in lowest terms:"
            + " 0 above, 1 below the line.");
        CircleTints x = new CircleTints();
        dueRatio("27 less than 2 of 4", x.next(2, 4, 7, 0, 0), x.next(2, 4, 7, 0, 1), 3, 7);
        dueRatio("27 more than 2 of 4", x.next(2, 4, 7, 1, 0), x.next(2, 4, 7, 1, 1), 4, 7);
        dueRatio("27 from 0 on", x.next(1, 9999, 9998, 0, 0), x.next(1, 9999, 9998, 0, 1), 0, 1);
        dueRatio("27 in lowest terms", x.next(3, 2, 1, 0, 0), x.next(3, 2, 1, 0, 1), 1, 1);
        dueRatio("27 the greatest", x.next(9999, 1, 9999, 1, 0), x.next(9999, 1, 9999, 1, 1), 99980002, 9999);
        says("BAD; NONE: there is none.");
        refuses("27 p", EMPTY, y -> y.next(10000, 1, 1, 0, 0), BAD);
        refuses("27 q", EMPTY, y -> y.next(0, 0, 1, 0, 0), BAD);
        refuses("27 n", EMPTY, y -> y.next(0, 1, 10000, 0, 0), BAD);
        refuses("27 side", EMPTY, y -> y.next(0, 1, 1, 2, 0), BAD);
        refuses("27 part", EMPTY, y -> y.next(0, 1, 1, 0, 2), BAD);
        refuses("27 none less than 0", EMPTY, y -> y.next(0, 1, 1, 0, 0), NONE);
        says("`int fraction(int h, long above, long below)`: A HOLD holds the FRACTION above of below: 1.");
        due("28 1", x.fraction(3, 10, 4), 1);
        dueFraction("28 holds", x, 3, 5, 2);
        says("BAD: h; -15: below is 0; MUCH: in lowest terms, with more than 0 below, one of its numbers is none of 64 bits.");
        refuses("28 h", SOME, y -> y.fraction(4, 1, 0), BAD);
        refuses("28 below is 0", SOME, y -> y.fraction(0, LEAST, 0), BY_0);
        refuses("28 above", SOME, y -> y.fraction(0, LEAST, -3), MUCH);
        refuses("28 below", SOME, y -> y.fraction(0, 3, LEAST), MUCH);
        due("28 in lowest terms it isn't", x.fraction(3, LEAST, -4), 1);
        dueFraction("28 in lowest terms", x, 3, 1L << 61, 1);
    }

    private static void promises29And30() {
        says("`int hold(int h, int what, int n)`: A HOLD holds a LINE as it is now (what 0), the ROW of a SHEET (1), nothing"
            + " (2; n does not matter): 1.");
        CircleTints x = SOME.make();
        x.change(0, 1, 3);
        due("29 a LINE", x.hold(0, 0, 0) * 10 + x.told(0, 4), 14);
        due("29 a ROW", x.hold(0, 1, 2) * 10 + x.told(0, 5), 14);
        due("29 nothing", x.hold(0, 2, MIN), 1);
        due("29 nothing is held", x.told(0, 5), NO + MISSING);
        says("BAD: h, what, no such LINE, SHEET; -11: the SHEET is missing.");
        refuses("29 h", SOME, y -> y.hold(4, 1, 3), BAD);
        refuses("29 what", SOME, y -> y.hold(0, 3, 3), BAD);
        refuses("29 no such LINE", SOME, y -> y.hold(0, 0, 5), BAD);
        refuses("29 no such SHEET", SOME, y -> y.hold(0, 1, 4), BAD);
        refuses("29 missing", SOME, y -> y.hold(0, 1, 3), MISSING);
        says("`int does(int h, int what, int g)`: With a of b in HOLD h, c of d in HOLD g: h becomes (what 0) a*d + c*b of b*d,"
            + " (1) a*d - c*b of b*d, (2) a*c of b*d, (3) a*d of b*c, (4) a + c of b + d: 1.");
        long[][] dues = {{29, 21}, {-1, 21}, {10, 21}, {14, 15}, {7, 10}};
        for (int what = 0; what < 5; what++) {
            x.fraction(0, 2, 3);
            x.fraction(1, 5, 7);
            due("30 1", x.does(0, what, 1), 1);
            dueFraction("30 what " + what, x, 0, dues[what][0], dues[what][1]);
            dueFraction("30 g stays", x, 1, 5, 7);
        }
        says("BAD: h, g, what; -11: one holds nothing; -13: one holds no FRACTION; -15: (what 3) c is 0; MUCH: one of these products,"
            + " sums is none of 64 bits, or what comes of it, as in fraction().");
        refuses("30 h", SOME, y -> y.does(4, 0, 3), BAD);
        refuses("30 g", SOME, y -> y.does(3, 0, -1), BAD);
        refuses("30 what", SOME, y -> y.does(3, 5, 3), BAD);
        refuses("30 nothing", SOME, y -> y.does(1, 0, 3), MISSING);
        refuses("30 a LINE", SOME, y -> y.does(0, 0, 1), SORTS);
        refuses("30 a ROW", SOME, y -> y.does(2, 0, 0), SORTS);
        x.fraction(1, 0, 1);
        due("30 c is 0", x.does(0, 3, 1), BY_0);
        due("30 c is 0, added", x.does(0, 0, 1), 1);
        x.fraction(0, MOST, 2);
        x.fraction(1, 2, MOST);
        due("30 a*d, though lowest terms would do", x.does(0, 0, 1), MUCH);
        x.fraction(0, LEAST, 1);
        x.fraction(1, -1, 1);
        due("30 a + c", x.does(0, 4, 1), MUCH);
        due("30 what comes of it", x.does(0, 3, 1), MUCH);
        dueFraction("30 h stays", x, 0, LEAST, 1);
    }

    private static void promises31And32() {
        says("`int compare(int h, int g)`: Whether the FRACTION in HOLD h is less than (-1), like (0) or more than (1) that in HOLD g, and 1.");
        CircleTints x = SOME.make();
        x.fraction(0, MOST - 1, MOST);
        x.fraction(3, MOST - 2, MOST - 1);
        due("31 more", x.compare(0, 3), 2);
        due("31 less", x.compare(3, 0), 0);
        due("31 like", x.compare(3, 3), 1);
        says("BAD: h, g; -11; -13 likewise.");
        refuses("31 h", SOME, y -> y.compare(4, 3), BAD);
        refuses("31 g", SOME, y -> y.compare(3, 4), BAD);
        refuses("31 nothing", SOME, y -> y.compare(1, 3), MISSING);
        refuses("31 no FRACTION", SOME, y -> y.compare(0, 2), SORTS);
        says("`long told(int h, int what)`: What a HOLD holds: of a FRACTION 0 above, 1 below the line, 2 cut to a whole number;"
            + " of a LINE 3 KIND, 4 GAP (of then); of a ROW 5 how many numbers, 6 all together (as longs that wrap).");
        Scene held = () -> {
            CircleTints y = SOME.make();
            y.fraction(0, -7, 2);
            y.write(1, 2, 2);
            y.hold(2, 1, 1);
            y.change(0, 0, 0);
            return y;
        };
        long[] dues = {-7, 2, -3, 1, 3, 3, LEAST + 2};
        int[] holds = {0, 0, 0, 1, 1, 2, 2};
        for (int w = 0; w < 7; w++) due("32 told " + w, held.make().told(holds[w], w), dues[w]);
        says("With NO more, refused: BAD: h, what; -11; -13: another thing.");
        refuses("32 h", SOME, y -> y.told(4, 0), NO + BAD);
        refuses("32 what", SOME, y -> y.told(3, 7), NO + BAD);
        refuses("32 nothing", SOME, y -> y.told(3, 0), NO + MISSING);
        for (int h = 0; h < 3; h++) {
            for (int w = 0; w < 7; w++) if (holds[w] != h) due("32 another thing", held.make().told(h, w), NO + SORTS);
        }
    }

    private static void promises33To35() {
        says("`int feed(int bytes, int n)`: THE TAPE gets the n lowest bytes of a number behind it, the highest of these first (n 1 to 4):"
            + " how many it has.");
        CircleTints x = new CircleTints();
        due("33 poin", x.feed('p' << 24 | 'o' << 16 | 'i' << 8 | 'n', 4), 4);
        due("33 ts and a blank", x.feed(-1 << 24 | 't' << 16 | 's' << 8 | ' ', 3), 7);
        due("33 3", x.feed('1' << 8 | '3', 1), 8);
        says("BAD: n; FULL.");
        bounds("33 n", SOME, (y, n) -> y.feed(' ', n), 1, 4, BAD);
        refuses("33 BAD before FULL", FILLED, y -> y.feed(' ', 5), BAD);
        refuses("33 FULL", FILLED, y -> y.feed(' ', 1), FULL);
        says("`int wipe()`: THE TAPE is empty: how many it had.");
        CircleTints full = FILLED.make();
        due("34 how many", full.wipe(), 120);
        due("34 empty", full.count(4), 0);
        says("`int text()`: THE TAPE, which is empty then, is a TEXT; all that it tells is so, ITEM by ITEM: how many ITEMS;"
            + " with a FAULT -100 less that.");
        due("35 one ITEM", x.text(), 1);
        due("35 is so", x.count(0), 3);
        due("35 empty then", x.count(4), 0);
        due("35 a LINE of a POINT that an ITEM before tells", read(x, "points 1;line plain 1 0 3"), 2);
        due("35 FAULT at 9", read(x, "points 1;x"), -109);
        due("35 empty then, too", x.count(4), 0);
        due("35 FAULT at 0", x.text(), -100);
    }

    private static void promises36And37() {
        says("`int seed(int v)`: z becomes v: what it was.");
        CircleTints x = SOME.make();
        due("36 what it was", x.seed(MIN), 77);
        due("36 z", x.count(3), MIN);
        says("`int deal(int n, int odds)`: All POINTS, LINES there were are none; n POINTS (1 to 6) come, LISTS as at first;");
        due("37 no LINES of one POINT", x.deal(1, 10), 0);
        due("37 POINTS", x.count(0), 1);
        due("37 z, as nothing was drawn", x.count(3), MIN);
        x.points(1);
        x.list(0, 0);
        x.deal(2, 0);
        due("37 LISTS as at first", x.list(0, 0) & x.list(1, 0), ALL);
        says("then for each two, by the greater one, then by the lesser, while there is room for a LINE: if a DRAW's rest by 10 is below"
            + " odds (0 to 10), a LINE of the KIND of a DRAW's rest by 5, with the FIGURE 1 more than a DRAW's rest by 3:"
            + " how many LINES there are.");
        for (int odds = 0; odds <= 10; odds++) dueDeal(6, odds, 12345 * odds - 54321);
        says("BAD.");
        refuses("37 n", SOME, y -> y.deal(7, 5), BAD);
        refuses("37 odds", SOME, y -> y.deal(6, 11), BAD);
    }

    private static void dueDeal(int n, int odds, int seed) {
        CircleTints x = new CircleTints();
        x.seed(seed);
        int got = x.deal(n, odds);
        int lines = 0;
        int z = seed;
        for (int greater = 0; greater < n; greater++) {
            for (int lesser = 0; lesser < greater && lines < 10; lesser++) {
                z = z * 1103515245 + 12345;
                if ((z >>> 16) % 10 >= odds) continue;
                z = z * 1103515245 + 12345;
                due("37 KIND", x.lineOf(lines, 0), (z >>> 16) % 5);
                z = z * 1103515245 + 12345;
                due("37 FIGURE", x.lineOf(lines, 1), (z >>> 16) % 3 + 1);
                due("37 by the greater one, then by the lesser", x.lineOf(lines, 4) * 10 + x.lineOf(lines, 3), greater * 10 + lesser);
                lines++;
            }
        }
        due("37 how many", got, lines);
        due("37 z", x.count(3), z);
    }

    private static void promises38To40() {
        says("`int sheet(int s, int sort, int n)`: A SHEET becomes a row of n numbers of a sort, all 0, or missing (sort -1;"
            + " n doesn't matter): 1.");
        CircleTints x = SOME.make();
        due("38 longs", x.sheet(1, 1, 2), 1);
        dueRow("38 all 0", x, 1, 0, 0);
        due("38 missing", x.sheet(1, -1, 99), 1);
        due("38 is missing", x.item(1, 0), NO + MISSING);
        says("BAD: s, sort, n above 40; -14.");
        refuses("38 s", SOME, y -> y.sheet(4, 0, -1), BAD);
        refuses("38 sort", SOME, y -> y.sheet(0, 2, -1), BAD);
        refuses("38 n above 40", SOME, y -> y.sheet(0, 0, 41), BAD);
        refuses("38 a size below 0", SOME, y -> y.sheet(0, 1, -1), SIZE);
        says("`int write(int s, int i, long v)`: Number i of a SHEET becomes v: 1.");
        x.sheet(1, 0, 3);
        due("39 1", x.write(1, 1, MIN), 1);
        dueRow("39 number 1", x, 1, 0, MIN, 0);
        says("BAD: s; -11; -12; MUCH: v is no int, where it must be.");
        refuses("39 s", SOME, y -> y.write(4, 0, 1), BAD);
        refuses("39 missing", SOME, y -> y.write(3, 0, 1), MISSING);
        refuses("39 outside", SOME, y -> y.write(0, 4, MOST), OUTSIDE);
        refuses("39 no int", SOME, y -> y.write(0, 3, MAX + 1L), MUCH);
        due("39 no int, where it needn't be", SOME.make().write(1, 0, MAX + 1L), 1);
        says("`long item(int s, int i)`: Number i of a SHEET.");
        due("40 number 0", SOME.make().item(1, 0), MOST);
        says("With NO more, refused: BAD: s; -11; -12.");
        refuses("40 s", SOME, y -> y.item(-1, 0), NO + BAD);
        refuses("40 missing", SOME, y -> y.item(3, -1), NO + MISSING);
        refuses("40 outside", SOME, y -> y.item(1, 3), NO + OUTSIDE);
    }

    private static void promises41And42() {
        says("`int copy(int s, int i, int t, int j, int n)`: n numbers of a SHEET from i on come to another one (or the same) from j on,"
            + " as they were: n.");
        CircleTints x = new CircleTints();
        fill(x, 0, 1, 1, 2, 3, 4);
        fill(x, 1, 1, 7, 8, 9);
        due("41 to another", x.copy(0, 2, 1, 1, 2), 2);
        dueRow("41 another", x, 1, 7, 3, 4);
        due("41 to the same", x.copy(0, 0, 0, 1, 3), 3);
        dueRow("41 as they were", x, 0, 1, 1, 2, 3);
        says("BAD: SHEETS; -11: either; -13: of unlike sorts; -12 (n below 0, too).");
        refuses("41 s", SOME, y -> y.copy(4, 0, 3, 0, 1), BAD);
        refuses("41 t", SOME, y -> y.copy(3, 0, 4, 0, 1), BAD);
        refuses("41 s is missing", SOME, y -> y.copy(3, 0, 0, 0, 1), MISSING);
        refuses("41 t is missing", SOME, y -> y.copy(0, 0, 3, 0, -1), MISSING);
        refuses("41 unlike sorts", SOME, y -> y.copy(0, 0, 1, 0, -1), SORTS);
        refuses("41 outside", SOME, y -> y.copy(1, 1, 2, 0, 3), OUTSIDE);
        refuses("41 outside of the other one", SOME, y -> y.copy(2, 0, 1, 1, 3), OUTSIDE);
        refuses("41 n below 0", SOME, y -> y.copy(1, 1, 2, 1, -1), OUTSIDE);
        says("`int paint(int s, int p, int q, int lists)`: A SHEET truly becomes a row of ints, the places of the FIRST COLOURING as of"
            + " fits(): how many.");
        x = net("points 3;round plain 1 0 2;list 0 1 1");
        x.sheet(0, 1, 40);
        due("42 how many", x.paint(0, 4, 1, 0), 3);
        dueRow("42 the first", x, 0, 0, 1, 2);
        due("42 ints", x.write(0, 0, MOST), MUCH);
        due("42 by LISTS", x.paint(0, 4, 1, 1), 3);
        dueRow("42 the first by LISTS", x, 0, 1, 0, 2);
        says("BAD; NONE.");
        refuses("42 s", SOME, y -> y.paint(4, 8, 1, 0), BAD);
        refuses("42 p by LISTS", SOME, y -> y.paint(0, 17, 1, 1), BAD);
        refuses("42 NONE", SOME, y -> y.paint(0, 8, 1, 0), NONE);
    }

    private static void promises43And44() {
        says("`int image()`: THE IMAGE is kept: how many LINES.");
        due("43 how many LINES", SOME.make().image(), 5);
        says("`int back()`: All that THE IMAGE keeps is as it was then (it stays): how many LINES.");
        CircleTints x = SOME.make();
        due("44 how many LINES", x.back(), 1);
        due("44 as it was then", x.count(0) * 1000 + x.lineOf(0, 0) * 100 + x.lineOf(0, 1) * 10 + x.list(1, 0), 3136);
        due("44 z", x.seed(4), -5);
        due("44 it stays", x.deal(6, 10), 10);
        due("44 back again", x.back(), 1);
        due("44 as it was then, again", x.count(0) * 1000 + x.lineOf(0, 0) * 100 + x.lineOf(0, 1) * 10 + x.list(1, 0), 3136);
        due("44 z again", x.count(3), -5);
        says("STATE: there is none.");
        refuses("44 there is none", FIVE, y -> y.back(), STATE);
    }

    private static void notPromised() {
        says("How the state is held inside the object is free, as are the speed of each call, the text of toString and the behaviour of"
            + " equals and hashCode.");
        says("Use of one object from several threads at once is not promised to be safe.");
        says("Nothing is promised beyond the answers and state changes described above, and nothing about an object after its 512th call.");
    }
}
