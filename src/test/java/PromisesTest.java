/** Each promise by hand: ordinary calls, the edges that the document names, wrong inputs. */
public final class PromisesTest extends Edge {
    private static final String FIVE_AND_ALL_LINES = "points 5;round plain 1 0 4;round plain 1 0 3;round plain 1 0 2;"
        + "round plain 1 1 4;round plain 1 2 4;line plain 1 1 3";

    public static void main(String[] args) {
        aNewObject();
        theNet();
        gaps();
        lists();
        colouringsAsked();
        colouringsByLists();
        ways();
        ratioWholeOff();
        rings();
        turns();
        justAfterAChange();
        bindsAndRoom();
        judge();
        arcsAndTight();
        rounds();
        next();
        fractions();
        sums();
        comparing();
        holding();
        tape();
        texts();
        faults();
        rounding();
        draws();
        sheets();
        copies();
        painting();
        images();
        end();
    }

    private static void aNewObject() {
        CircleTints x = new CircleTints();
        due("1 points", x.count(0), 0);
        due("1 lines", x.count(1), 0);
        due("1 gaps", x.count(2), 0);
        due("1 z", x.count(3), 1);
        due("1 bytes", x.count(4), 0);
        due("1 image", x.back(), STATE);
        for (int i = 0; i < 4; i++) {
            due("1 hold", x.told(i, 0), NO - 11);
            due("1 sheet", x.item(i, 0), NO - 11);
        }
        due("1 binds", x.binds(), 0);
        due("1 turns", x.turns(2), NONE);
        due("1 worst", x.worst(0), NONE);
        due("1 worst of no lines", x.worst(1), BAD);
        due("1 paint nothing", x.paint(0, 40, 6, 0), 0);
        due("1 judge nothing", x.judge(0, 1, 1), NONE);
        due("1 arcs of nothing", x.arcs(0, 1, 1), 0);
        due("1 tight of nothing", x.tight(0, 1, 1, 0), NONE);
        due("1 rounds of nothing", x.rounds(0, 7, 2, 3), 4);
        due("1 row of nothing", x.item(3, 0), NO - 12);
    }

    private static void theNet() {
        CircleTints x = new CircleTints();
        for (int n : new int[] {0, -1, 7, MIN, MAX}) due("2 points " + n, x.points(n), BAD);
        due("2 points", x.points(4), 4);
        due("2 no room", x.points(3), FULL);
        due("2 BAD first", x.points(7), BAD);
        due("2 the last", x.points(2), 6);
        due("2 full", x.points(1), FULL);
        due("2 unchanged", x.count(0), 6);
        int[][] bad = {{-1, 1, 0, 1}, {5, 1, 0, 1}, {0, 0, 0, 1}, {0, 4, 0, 1}, {0, 1, -1, 1}, {0, 1, 0, 6}, {0, 1, 6, 0}, {0, 1, 3, 3}};
        for (int[] b : bad) due("3 bad line", x.line(b[0], b[1], b[2], b[3]), BAD);
        due("3 none came", x.count(1), 0);
        int n = 0;
        for (int b = 1; b < 5; b++) for (int a = 0; a < b; a++) due("3 line", x.line(0, 1, b, a), n++);
        due("3 full", x.line(0, 1, 5, 0), FULL);
        due("3 STATE before FULL", x.line(0, 1, 0, 1), STATE);
        due("3 STATE, other way", x.line(1, 2, 1, 0), STATE);
        due("3 BAD before STATE", x.line(5, 1, 0, 1), BAD);
        due("4 lesser", x.lineOf(9, 3), 3);
        due("4 greater", x.lineOf(9, 4), 4);
        due("4 figure", x.lineOf(9, 1), 1);
        for (int w : new int[] {-1, 5, MIN, MAX}) due("4 bad what", x.lineOf(0, w), BAD);
        for (int l : new int[] {-1, 10, MIN, MAX}) due("4 bad line", x.lineOf(l, 0), BAD);
        due("5 kind", x.change(0, 0, 4), 0);
        due("5 figure", x.change(0, 1, 3), 1);
        due("5 is so", x.lineOf(0, 0), 4);
        due("5 is so, too", x.lineOf(0, 1), 3);
        int[][] worse = {{-1, 0, 1}, {10, 0, 1}, {0, -1, 1}, {0, 2, 1}, {0, 0, -1}, {0, 0, 5}, {0, 1, 0}, {0, 1, 4}};
        for (int[] b : worse) due("5 bad change", x.change(b[0], b[1], b[2]), BAD);
        due("5 unchanged", x.lineOf(0, 0) * 10 + x.lineOf(0, 1), 43);
        due("6 bad", x.drop(10), BAD);
        due("6 bad below", x.drop(-1), BAD);
        due("6 first goes", x.drop(0), 9);
        due("6 the next is less", x.lineOf(0, 3) * 10 + x.lineOf(0, 4), 2);
        due("6 the last, too", x.lineOf(8, 3) * 10 + x.lineOf(8, 4), 34);
        due("6 no more", x.lineOf(9, 0), BAD);
        due("6 may come again", x.line(2, 1, 1, 0), 9);
        due("8 points", x.count(0), 6);
        due("8 lines", x.count(1), 10);
        due("8 gaps", x.count(2), 10);
        for (int w : new int[] {-1, 5, MIN, MAX}) due("8 bad", x.count(w), BAD);
    }

    private static void gaps() {
        CircleTints x = net("points 6");
        int[][] cases = {
            {0, 1, 0, 1, 1}, {0, 3, 0, 1, 3}, {1, 1, 0, 1, 2}, {1, 3, 0, 1, 4}, {2, 1, 0, 1, 1}, {2, 2, 0, 1, 1}, {2, 3, 0, 1, 2},
            {3, 3, 0, 1, 1}, {3, 1, 5, 0, 5}, {3, 2, 1, 4, 3}, {4, 1, 0, 2, 2}, {4, 3, 3, 5, 2}, {4, 1, 0, 1, 1}, {4, 3, 4, 5, 3}};
        for (int[] c : cases) {
            due("4 comes", x.line(c[0], c[1], c[2], c[3]), 0);
            due("4 kind", x.lineOf(0, 0), c[0]);
            due("4 gap of " + c[0] + " " + c[1], x.lineOf(0, 2), c[4]);
            due("8 gaps", x.count(2), c[4]);
            x.drop(0);
        }
    }

    private static void lists() {
        CircleTints x = net("points 2");
        due("7 at first", x.list(0, 5), ALL);
        due("7 was", x.list(0, 0), 5);
        due("7 empty", x.list(0, ALL), 0);
        due("7 bit 39", x.list(1, 1L << 39), ALL);
        for (long places : new long[] {1L << 40, -1, Long.MIN_VALUE, ALL + 1}) due("7 beyond", x.list(1, places), NO + BAD);
        due("7 unchanged", x.list(1, 1), 1L << 39);
        for (int p : new int[] {-1, 2, MIN, MAX}) due("7 no such", x.list(p, 1), NO + BAD);
        due("7 new points have all", x.points(1), 3);
        due("7 new point", x.list(2, 0), ALL);
    }

    private static void colouringsAsked() {
        CircleTints x = net("points 3; round plain 1 0 2");
        due("9 triangle", x.fits(3, 1, 0), 1);
        due("9 too few", x.fits(2, 1, 0), 0);
        due("9 by two", x.fits(6, 2, 0), 1);
        due("9 just too few", x.fits(5, 2, 0), 0);
        due("9 most", x.fits(40, 6, 0), 1);
        due("9 p above", x.fits(41, 1, 0), BAD);
        due("9 p 0", x.fits(0, 1, 0), BAD);
        due("9 q 0", x.fits(3, 0, 0), BAD);
        due("9 q above", x.fits(40, 7, 0), BAD);
        due("9 lists above", x.fits(3, 1, 2), BAD);
        due("9 lists below", x.fits(3, 1, -1), BAD);
        due("9 by lists most", x.fits(16, 1, 1), 1);
        due("9 by lists above", x.fits(17, 1, 1), BAD);
        due("10 first", x.place(7, 2, 0, 0), 0);
        due("10 second", x.place(7, 2, 0, 1), 2);
        due("10 third", x.place(7, 2, 0, 2), 4);
        due("10 none", x.place(5, 2, 0, 0), NONE);
        due("10 no such point", x.place(5, 2, 0, 3), BAD);
        due("10 no such point below", x.place(7, 2, 0, -1), BAD);
        due("10 by lists above", x.place(17, 1, 1, 0), BAD);
        due("10 p above", x.place(41, 1, 0, 0), BAD);
        x = net("points 6");
        due("9 no lines, q above p", x.fits(1, 6, 0), 1);
        due("10 no lines", x.place(1, 6, 0, 5), 0);
        x = net("points 6; line wide 3 1 4");
        due("9 both ways round", x.fits(8, 1, 0), 1);
        due("9 only one way", x.fits(7, 1, 0), 0);
        due("10 others at 0", x.place(40, 5, 0, 5), 0);
        due("10 so far", x.place(40, 5, 0, 4), 20);
        // the first colouring has POINT 1 at 0 though POINT 2 comes later: 0-2 and 1-2 only
        x = net("points 3; line plain 2 2 0; line plain 1 2 1");
        due("10 bound by later ones", x.place(5, 1, 0, 1) * 10 + x.place(5, 1, 0, 2), 2);
    }

    private static void colouringsByLists() {
        CircleTints x = net("points 2; line plain 1 0 1; list 0 3 4; list 1 3 3");
        due("9 by lists", x.fits(5, 1, 1), 1);
        due("10 by lists", x.place(5, 1, 1, 0), 4);
        due("9 a list beyond p", x.fits(4, 1, 1), 0);
        due("10 none by lists", x.place(4, 1, 1, 0), NONE);
        due("9 without lists", x.fits(4, 1, 0), 1);
        due("10 without lists", x.place(4, 1, 0, 0), 0);
        x.list(0, 0);
        due("9 an empty list", x.fits(16, 1, 1), 0);
        due("9 an empty list, not asked", x.fits(16, 1, 0), 1);
        x.list(0, 1L << 39);
        due("9 a list beyond all", x.fits(16, 1, 1), 0);
        x = net("points 3; list 1 2 39; list 2 7 7");
        due("10 no lines, by lists", x.place(8, 6, 1, 0) * 100 + x.place(8, 6, 1, 1) * 10 + x.place(8, 6, 1, 2), 27);
        due("9 no lines, none", x.fits(7, 6, 1), 0);
        // 0 at 0 is less than 2 by 5 from 4 the other way round, and has no other place
        x = net("points 2; line plain 2 0 1; list 0 0 0; list 1 4 4");
        due("9 too near the other way round", x.fits(5, 1, 1), 0);
        due("9 just far enough", x.fits(6, 1, 1), 1);
        // POINT 0 must leave its least place for POINT 1's sake
        x = net("points 2; line plain 2 0 1; list 0 0 3; list 1 1 1");
        due("10 goes up", x.place(6, 1, 1, 0), 3);
    }

    private static void ways() {
        CircleTints x = net("points 3; round plain 1 0 2");
        due("11 triangle by 3", x.ways(3, 1, 0), 6);
        due("11 by 8", x.ways(8, 1, 0), 336);
        due("11 by 7 for 2", x.ways(7, 2, 0), 42);
        due("11 none", x.ways(5, 2, 0), 0);
        x.list(0, 1);
        x.list(1, 6);
        due("11 by lists", x.ways(3, 1, 1), 2);
        due("11 by lists, more", x.ways(4, 1, 1), 4);
        int[][] bad = {{0, 1, 0}, {9, 1, 0}, {9, 1, 1}, {3, 0, 0}, {3, 7, 0}, {3, 1, 2}, {3, 1, -1}, {MIN, 1, 0}};
        for (int[] b : bad) due("11 bad", x.ways(b[0], b[1], b[2]), BAD);
        x = net("points 6");
        due("11 all", x.ways(8, 6, 0), 262144);
        due("11 all by lists", x.ways(8, 6, 1), 262144);
        x.list(5, 3L << 7);
        due("11 one of eight", x.ways(8, 1, 1), 32768);
        x = net("points 6; round plain 1 0 5");
        due("11 six round", x.ways(3, 1, 0), 66);
    }

    private static void ratioWholeOff() {
        CircleTints x = new CircleTints();
        due("13 no points", x.whole(), NONE);
        due("14 no lines", x.off(0), NONE);
        due("14 BAD before NONE", x.off(2), BAD);
        x.points(2);
        due("13 no lines", x.whole(), 1);
        due("12 no lines", x.ratio(0) * 10 + x.ratio(1), 11);
        x.line(0, 3, 0, 1);
        due("12 there and back", x.ratio(0) * 10 + x.ratio(1), 61);
        due("13 there and back", x.whole(), 6);
        due("14 none off", x.off(0) * 10 + x.off(1), 1);
        for (int p : new int[] {-1, 2, MIN, MAX}) {
            due("12 bad", x.ratio(p), BAD);
            due("14 bad", x.off(p), BAD);
        }
        x = net("points 5; round wide 1 0 4");
        due("12 twice as wide", x.ratio(0) * 10 + x.ratio(1), 51);
        due("14 twice as wide", x.off(0) * 10 + x.off(1), 1);
        x.change(0, 0, 0);
        // gaps 1 2 2 2 2: 9 by 2 is more than 4
        due("12 nine by two", x.ratio(0) * 10 + x.ratio(1), 92);
        due("13 nine by two", x.whole(), 5);
        due("14 nine by two", x.off(0) * 10 + x.off(1), 12);
        x = net("points 6; round plain 1 0 5; line plain 1 0 2");
        due("12 a triangle is worse", x.ratio(0) * 10 + x.ratio(1), 31);
        x = net("points 4; round plain 1 0 3; line plain 1 0 2; line plain 1 1 3");
        due("12 all of four", x.ratio(0) * 10 + x.ratio(1), 41);
        due("13 all of four", x.whole(), 4);
        x.drop(5);
        due("12 after a drop", x.ratio(0), 3);
    }

    private static void rings() {
        CircleTints x = new CircleTints();
        due("15 none", x.rings(), 0);
        due("16 none", x.ring(0, 0), NONE);
        x = net("points 4; line plain 2 0 1; line plain 1 1 2; line plain 3 0 2; line plain 1 2 3; line plain 1 0 3");
        // five alone, 0-1-2, 0-2-3, 0-1-2-3
        due("15 of five lines", x.rings(), 8);
        int[] sets = {1, 2, 4, 7, 8, 16, 27, 28};
        int[] points = {3, 6, 5, 7, 12, 9, 15, 13};
        int[] lengths = {4, 2, 6, 6, 2, 2, 5, 5};
        for (int i = 0; i < 8; i++) {
            due("16 set " + i, x.ring(i, 0), sets[i]);
            due("16 points " + i, x.ring(i, 1), points[i]);
            due("16 length " + i, x.ring(i, 2), lengths[i]);
        }
        due("16 beyond", x.ring(8, 0), NONE);
        due("16 below", x.ring(-1, 0), NONE);
        due("16 BAD before NONE", x.ring(8, 3), BAD);
        due("16 bad below", x.ring(0, -1), BAD);
        x = net("points 6; round plain 1 0 2; round plain 1 3 5");
        due("15 two apart are no ring", x.rings(), 8);
        x = net("points 5; round plain 1 0 2; round plain 1 2 4");
        due("15 nor are two that touch", x.rings(), 8);
        x = net(FIVE_AND_ALL_LINES);
        due("15 five, all lines", x.count(1) * 100 + x.rings(), 1047);
    }

    private static void turns() {
        CircleTints x = net("points 3; line plain 1 0 1; line plain 2 1 2; line plain 3 0 2");
        // 0 to 1 to 2 and 2 to 0: turn 4
        due("17 no", x.circled(0), 0);
        due("17 yes", x.circled(4), 1);
        due("17 the other way", x.circled(3), 1);
        due("17 no line", x.circled(8), BAD);
        due("17 below", x.circled(-1), BAD);
        due("18 rate", x.rate(0, 0) * 10 + x.rate(0, 1), 61);
        due("18 circled", x.rate(4, 0), STATE);
        due("18 BAD before STATE", x.rate(4, 2), BAD);
        due("18 no line", x.rate(8, 0), BAD);
        due("18 below", x.rate(MIN, 0), BAD);
        // 6 by 1 of line 2 alone, and of all three
        due("19 the least", x.worst(0), 4);
        due("19 circled", x.worst(3), STATE);
        due("19 bad", x.worst(-8), BAD);
        due("20 not circled", x.turns(0), 6);
        due("20 as ratio", x.turns(1), 6);
        due("20 least", x.turns(2), 0);
        due("20 bad", x.turns(3), BAD);
        due("20 bad below", x.turns(-1), BAD);
        x = new CircleTints();
        x.points(2);
        due("18 no lines", x.rate(0, 0), NONE);
        due("18 BAD before NONE", x.rate(1, 0), BAD);
        due("20 no lines", x.turns(0), 1);
        due("20 no lines, NONE", x.turns(1), NONE);
        x.line(0, 1, 0, 1);
        due("17 one alone is never", x.circled(1), 0);
        due("18 one alone", x.rate(1, 0), 2);
        x = net("points 5; round wide 1 0 4");
        x.change(0, 0, 0);
        // lines 0-1 1-2 2-3 3-4 0-4, length 9; by 0 one is against all others, by 1 two
        due("18 nine by one", x.rate(0, 0) * 10 + x.rate(0, 1), 91);
        due("18 nine by two", x.rate(1, 0) * 10 + x.rate(1, 1), 92);
        due("19 the ring", x.worst(1), 31);
        due("20 least of the best", x.turns(2), 1);
        due("20 best", x.turns(1), 20);
        x.change(0, 0, 1);
        due("18 in lowest terms", x.rate(1, 0) * 10 + x.rate(1, 1), 51);
        // five round by turn 1 is 5 of 2; then 1-2-3-4 with a line against three, 4 of 1; or a wider line to a sixth point
        x = net("points 6; round plain 1 0 4; line plain 1 1 4");
        due("18 a later ring is worse", x.rate(1, 0) * 10 + x.rate(1, 1), 41);
        due("19 the later ring", x.worst(1), 46);
        x = net("points 6; round plain 1 0 4; line wide 1 4 5");
        due("18 a later line is worse", x.rate(1, 0) * 10 + x.rate(1, 1), 41);
        due("19 the later line", x.worst(1), 32);
        due("19 the later line, whatever the turn", x.worst(33), 32);
        due("12 whatever the turn", x.ratio(0) * 10 + x.ratio(1), 41);
    }

    /** Calls that need RINGS or RATES just after the net changed, with no other call between. */
    private static void justAfterAChange() {
        String five = "points 5; round plain 1 0 4";
        CircleTints x = net(five);
        due("9 fresh", x.fits(5, 2, 0), 1);
        x.change(0, 0, 1);
        due("9 after change", x.fits(5, 2, 0), 0);
        x.drop(0);
        due("9 after drop", x.fits(4, 2, 0), 1);
        x.line(1, 1, 0, 1);
        due("9 after line", x.fits(4, 2, 0), 0);
        x = net(five);
        due("16 fresh", x.ring(5, 0), 31);
        x.drop(4);
        due("16 after drop", x.ring(4, 0), NONE);
        x.line(0, 1, 4, 0);
        due("16 after line", x.ring(5, 2), 5);
        x.change(4, 1, 3);
        due("16 after change", x.ring(5, 2), 7);
        x.image();
        x.deal(3, 0);
        due("16 after deal", x.ring(0, 0), NONE);
        x.back();
        due("16 after back", x.ring(5, 2), 7);
        read(x, "line plain 1 0 2");
        due("16 after text", x.ring(6, 0), 32);
        x = net(five);
        due("10 fresh", x.place(5, 2, 0, 1), 2);
        x = net(five);
        due("17 fresh", x.circled(15), 1);
        x = net(five);
        due("18 fresh", x.rate(1, 0), 5);
        x = net(five);
        due("19 fresh", x.worst(1), 31);
        x = net(five);
        due("20 fresh", x.turns(1), 20);
        x = net(five);
        due("21 fresh", x.binds(), 31);
        x = net(five);
        due("22 fresh", x.room(0), 0);
        x = net(five);
        due("13 fresh", x.whole(), 3);
        x = net(five);
        due("14 fresh", x.off(1), 2);
        x = net(five);
        due("11 fresh", x.ways(5, 2, 0), 10);
        x = net(five);
        fill(x, 0, 0, 0, 2, 4, 1, 3);
        due("25 fresh", x.tight(0, 5, 2, 0), 31);
        x = net(five);
        due("42 fresh", x.paint(0, 4, 2, 0), NONE);
    }

    private static void bindsAndRoom() {
        CircleTints x = net("points 3; line plain 1 0 1; line plain 2 1 2; line plain 3 0 2");
        // line 2 there and back is 6, as is the ring: without line 0 still 6
        due("21 one", x.binds(), 4);
        due("22 none", x.room(0), 0);
        due("22 none of it", x.room(2), 0);
        due("22 bad", x.room(3), BAD);
        due("22 bad below", x.room(-1), BAD);
        x.drop(1);
        due("21 a path", x.binds(), 2);
        due("22 as far as the other one", x.room(0), 2);
        x.change(1, 0, 1);
        due("22 one more", x.room(0), 3);
        x = net("points 2; line plain 3 0 1");
        due("21 alone", x.binds(), 1);
        due("22 alone", x.room(0), 0);
        x = net("points 6; round plain 1 0 2; line plain 1 3 4");
        due("21 a triangle", x.binds(), 7);
        due("22 there and back within three", x.room(3), 0);
        x = net("points 5; round wide 3 0 2; line plain 1 3 4");
        due("22 five more", x.room(3), 5);
        x = net("points 6; round span 1 0 5; line span 1 0 3; line span 1 2 5; line plain 1 1 3");
        // 0-5 there and back is 10, the ring of all is 10 as well
        due("12 span", x.ratio(0) * 10 + x.ratio(1), 101);
        // places 0 1 2 6 7 5 by 10 have 1 and 3 just opposite
        due("22 span", x.room(8), 4);
        x = net("points 4; line wide 3 0 1; line plain 1 2 3");
        due("22 three", x.room(1), 3);
        x = net("points 4; round wide 3 0 3; line wide 3 0 2; line wide 3 1 3");
        due("12 sixteen", x.ratio(0) * 10 + x.ratio(1), 161);
        x.points(2);
        x.line(0, 1, 4, 5);
        due("22 seven", x.room(6), 7);
        CircleTints y = net("points 6; line wide 3 0 1; round wide 3 0 3; line wide 3 0 2; line wide 3 1 3; line plain 1 4 5");
        due("22 the same net, lines in another order", y.room(6), 7);
    }

    private static void judge() {
        CircleTints x = net("points 3; round plain 1 0 2");
        due("23 missing", x.judge(0, 3, 1), -11);
        fill(x, 0, 0, 0, 1);
        due("23 too short", x.judge(0, 3, 1), -12);
        fill(x, 0, 0, 0, 1, 2, -9);
        due("23 a colouring", x.judge(0, 3, 1), NONE);
        due("23 not for two", x.judge(0, 5, 2), 1);
        due("23 place is p", x.judge(0, 2, 1), 2);
        fill(x, 1, 1, 0, 2, 4);
        due("23 of longs", x.judge(1, 6, 2), NONE);
        due("23 the other way round", x.judge(1, 5, 2), 2);
        fill(x, 1, 1, 4294967296L, 2, 4);
        due("23 far off", x.judge(1, 6, 2), 0);
        fill(x, 1, 1, 0, Long.MIN_VALUE, 4);
        due("23 far below", x.judge(1, 6, 2), 1);
        fill(x, 1, 0, 0, 2, -1);
        due("23 below", x.judge(1, 6, 2), 2);
        int[][] bad = {{-1, 3, 1}, {4, 3, 1}, {0, 0, 1}, {0, 41, 1}, {0, 3, 0}, {0, 3, 7}, {3, 0, 1}};
        for (int[] b : bad) due("23 bad", x.judge(b[0], b[1], b[2]), BAD);
        x.drop(0);
        fill(x, 0, 0, 1, 1, 2);
        due("23 no line, no matter", x.judge(0, 3, 1), NONE);
    }

    private static void arcsAndTight() {
        CircleTints x = net("points 2; line plain 2 0 1");
        fill(x, 0, 0, 0, 2);
        due("24 both ways", x.arcs(0, 4, 1), 2);
        due("25 one alone", x.tight(0, 4, 1, 0), 1);
        due("25 there and back is once", x.tight(0, 4, 1, 1), 1);
        due("24 one way", x.arcs(0, 5, 1), 1);
        due("25 one way is no ring", x.tight(0, 5, 1, 0), NONE);
        fill(x, 0, 0, 2, 0);
        due("24 downward", x.arcs(0, 5, 1), 1);
        due("24 no colouring", x.arcs(0, 3, 1), STATE);
        due("25 no colouring", x.tight(0, 3, 1, 0), STATE);
        due("24 missing", x.arcs(1, 5, 1), -11);
        due("25 missing", x.tight(1, 5, 1, 0), -11);
        due("25 BAD before missing", x.tight(1, 5, 1, 2), BAD);
        due("25 BAD below", x.tight(0, 4, 1, -1), BAD);
        due("24 bad", x.arcs(4, 5, 1), BAD);
        due("24 bad p", x.arcs(0, 41, 1), BAD);
        due("25 bad q", x.tight(0, 4, 7, 0), BAD);
        x.sheet(2, 1, 1);
        due("24 short", x.arcs(2, 5, 1), -12);
        due("25 short", x.tight(2, 5, 1, 1), -12);
        x = net("points 3; round plain 1 0 2");
        fill(x, 0, 1, 4, 2, 0);
        due("24 going down", x.arcs(0, 6, 2), 3);
        due("25 going down", x.tight(0, 6, 2, 0), 7);
        due("25 once", x.tight(0, 6, 2, 1), 1);
        due("25 with room", x.tight(0, 7, 2, 0), NONE);
        x = net("points 5; round plain 1 0 4");
        fill(x, 0, 0, 0, 2, 4, 1, 3);
        due("25 twice", x.tight(0, 5, 2, 1), 2);
        x = net("points 4; round plain 1 0 3");
        fill(x, 0, 0, 0, 1, 2, 3);
        due("25 four", x.tight(0, 4, 1, 0), 15);
        // by two places each line is tight both ways: the least ring is line 0 alone
        fill(x, 0, 0, 0, 1, 0, 1);
        due("24 all both ways", x.arcs(0, 2, 1), 8);
        due("25 the least", x.tight(0, 2, 1, 0), 1);
        // 0 1 0 1 by 3: up from 0 to 1, 2 to 1 ..: never round
        due("24 all one way", x.arcs(0, 3, 1), 4);
        due("25 never round", x.tight(0, 3, 1, 0), NONE);
    }

    private static void rounds() {
        CircleTints x = net("points 3; round plain 1 0 2");
        fill(x, 0, 1, 1, 4, 6, 99);
        x.sheet(1, 1, 9);
        due("26 whole colours", x.rounds(0, 7, 2, 1), 4);
        dueRow("26 row", x, 1, 0, 2, 3);
        due("26 truly ints", x.write(1, 0, 1L << 40), MUCH);
        due("26 not cut", x.rounds(0, 8, 2, 1), 4);
        due("26 into itself", x.rounds(0, 7, 2, 0), 4);
        dueRow("26 itself", x, 0, 0, 2, 3);
        due("26 itself is of ints", x.write(0, 0, 1L << 40), MUCH);
        due("26 missing", x.rounds(3, 7, 2, 1), -11);
        due("26 bad t", x.rounds(3, 7, 2, 4), BAD);
        due("26 bad t below", x.rounds(0, 7, 2, -1), BAD);
        due("26 bad s", x.rounds(4, 7, 2, 1), BAD);
        due("26 bad p", x.rounds(0, 0, 2, 1), BAD);
        due("26 bad q", x.rounds(0, 7, 0, 1), BAD);
        x.sheet(2, 0, 2);
        due("26 short", x.rounds(2, 7, 2, 1), -12);
        due("26 no colouring", x.rounds(0, 3, 2, 1), STATE);
        dueRow("26 unchanged", x, 1, 0, 2, 3);
        due("26 to a missing one", x.rounds(1, 4, 1, 3), 4);
        dueRow("26 to a missing one", x, 3, 0, 2, 3);
    }

    private static void dueNext(int p, int q, int n, int side, int above, int below) {
        CircleTints x = new CircleTints();
        String what = "27 next " + p + " of " + q + " by " + n + " side " + side;
        due(what + " above", x.next(p, q, n, side, 0), above);
        due(what + " below", x.next(p, q, n, side, 1), below);
    }

    private static void next() {
        dueNext(1, 2, 5, 0, 2, 5);
        dueNext(1, 2, 5, 1, 3, 5);
        dueNext(2, 4, 5, 0, 2, 5);
        dueNext(1, 3, 1, 0, 0, 1);
        dueNext(1, 3, 1, 1, 1, 1);
        dueNext(5, 1, 1, 0, 4, 1);
        dueNext(5, 1, 1, 1, 6, 1);
        dueNext(0, 9999, 9999, 1, 1, 9999);
        dueNext(1, 9999, 9998, 0, 0, 1);
        dueNext(1, 9999, 9998, 1, 1, 9998);
        dueNext(9999, 1, 9999, 0, 99980000, 9999);
        dueNext(9999, 1, 9999, 1, 99980002, 9999);
        dueNext(9998, 9999, 9998, 0, 9997, 9998);
        dueNext(9998, 9999, 9998, 1, 1, 1);
        dueNext(355, 113, 100, 0, 311, 99);
        dueNext(355, 113, 100, 1, 22, 7);
        CircleTints x = new CircleTints();
        due("27 none below 0", x.next(0, 5, 5, 0, 0), NONE);
        int[][] bad = {{-1, 1, 1, 0, 0}, {10000, 1, 1, 0, 0}, {1, 0, 1, 0, 0}, {1, 10000, 1, 0, 0}, {1, 1, 0, 0, 0},
            {1, 1, 10000, 0, 0}, {1, 1, 1, -1, 0}, {1, 1, 1, 2, 0}, {1, 1, 1, 0, -1}, {1, 1, 1, 0, 2}, {0, 1, 1, 0, 2}};
        for (int[] b : bad) due("27 bad", x.next(b[0], b[1], b[2], b[3], b[4]), BAD);
        NaiveTints naive = new NaiveTints();
        for (int p = 0; p < 40; p++) {
            for (int q = 1; q < 30; q++) {
                for (int n = 1; n < 34; n++) {
                    for (int w = 0; w < 4; w++) {
                        due("27 next", x.next(p, q, n, w / 2, w % 2), naive.next(p, q, n, w / 2, w % 2));
                    }
                }
            }
        }
    }

    private static void dueFraction(String what, CircleTints x, int h, long above, long below) {
        due(what + " above", x.told(h, 0), above);
        due(what + " below", x.told(h, 1), below);
    }

    private static void fractions() {
        CircleTints x = new CircleTints();
        long least = Long.MIN_VALUE, most = Long.MAX_VALUE;
        due("28 lowest terms", x.fraction(0, -6, 4), 1);
        dueFraction("28 lowest terms", x, 0, -3, 2);
        due("28 both below 0", x.fraction(0, -6, -9), 1);
        dueFraction("28 both below 0", x, 0, 2, 3);
        due("28 nothing", x.fraction(0, 0, -7), 1);
        dueFraction("28 nothing", x, 0, 0, 1);
        due("28 least of least", x.fraction(0, least, least), 1);
        dueFraction("28 least of least", x, 0, 1, 1);
        due("28 least of 1", x.fraction(0, least, 1), 1);
        dueFraction("28 least of 1", x, 0, least, 1);
        due("28 least of 2", x.fraction(0, least, -2), 1);
        dueFraction("28 least of -2", x, 0, 1L << 62, 1);
        due("28 most of least", x.fraction(0, most, least), MUCH);
        due("28 least of most", x.fraction(0, least, most), 1);
        dueFraction("28 least of most", x, 0, least, most);
        due("28 least of -most", x.fraction(0, least, -most), MUCH);
        due("28 nothing of least", x.fraction(0, 0, least), 1);
        dueFraction("28 nothing of least", x, 0, 0, 1);
        due("28 least of 3", x.fraction(0, least, 3), 1);
        due("28 cut", x.told(0, 2), least / 3);
        due("28 by 0", x.fraction(0, 0, 0), -15);
        due("28 refused: as it was", x.told(0, 1), 3);
        for (int h : new int[] {-1, 4, MIN, MAX}) due("28 bad", x.fraction(h, 1, 0), BAD);
    }

    private static void dueDoes(String what, long a, long b, int does, long c, long d, long answer) {
        CircleTints x = new CircleTints();
        x.fraction(1, a, b);
        x.fraction(2, c, d);
        long above = x.told(1, 0), below = x.told(1, 1);
        due(what, x.does(1, does, 2), answer);
        if (answer < 0) dueFraction(what + " as it was", x, 1, above, below);
    }

    private static void sums() {
        CircleTints x = new CircleTints();
        long[][] due = {{1, 2}, {-1, 6}, {1, 6}, {1, 2}, {2, 9}};
        for (int what = 0; what < 5; what++) {
            x.fraction(0, 1, 6);
            x.fraction(3, 1, 3);
            due("30 does", x.does(0, what, 3), 1);
            dueFraction("30 does " + what, x, 0, what == 2 ? 1 : due[what][0], what == 2 ? 18 : due[what][1]);
            dueFraction("30 the other one stays", x, 3, 1, 3);
        }
        x.fraction(0, 3, 4);
        due("30 with itself", x.does(0, 1, 0), 1);
        dueFraction("30 with itself", x, 0, 0, 1);
        due("30 by 0", x.does(3, 3, 0), -15);
        x.fraction(1, 5, 7);
        due("30 times 0", x.does(1, 2, 0), 1);
        dueFraction("30 times 0", x, 1, 0, 1);
        due("30 0 by a number", x.does(0, 3, 3), 1);
        dueFraction("30 0 by a number", x, 0, 0, 1);
        x.fraction(1, -2, 3);
        due("30 by less than 0", x.does(3, 3, 1), 1);
        dueFraction("30 by less than 0", x, 3, -1, 2);
        long least = Long.MIN_VALUE, most = Long.MAX_VALUE, half = 1L << 62;
        dueDoes("30 sum too great", most, 1, 0, 1, 1, MUCH);
        dueDoes("30 sum just not", most - 1, 1, 0, 1, 1, 1);
        dueDoes("30 less too great", least, 1, 1, 1, 1, MUCH);
        dueDoes("30 less of least", 0, 1, 1, least, 1, MUCH);
        dueDoes("30 product of least", least, 1, 2, 1, 1, 1);
        dueDoes("30 product of least by -1", least, 1, 2, -1, 1, MUCH);
        dueDoes("30 product of -1 by least", -1, 1, 2, least, 1, MUCH);
        dueDoes("30 product too great", half, 1, 2, 2, 1, MUCH);
        dueDoes("30 product just not", half, 1, 2, -2, 1, 1);
        dueDoes("30 lower parts too great", 1, half, 0, 1, 2, MUCH);
        dueDoes("30 too great though its sum were not", half, 1, 0, half, 3, MUCH);
        dueDoes("30 parted, lower part too great", 1, 1, 3, least, 1, MUCH);
        dueDoes("30 parted, in lowest terms", 2, 1, 3, least, 1, 1);
        dueDoes("30 parted, both least", least, 1, 3, least, 1, 1);
        dueDoes("30 least parted by -1", least, 1, 3, -1, 1, MUCH);
        dueDoes("30 between, too great", most, 1, 4, 1, 1, MUCH);
        dueDoes("30 between, lower too great", 1, most, 4, 1, 1, MUCH);
        dueDoes("30 between", 1, most - 1, 4, 1, 1, 1);
        dueDoes("30 below 0 too great", least, 1, 4, -1, 1, MUCH);
        dueDoes("30 bad what", 1, 1, 5, 1, 1, BAD);
        dueDoes("30 bad what below", 1, 1, -1, 1, 1, BAD);
        due("30 bad h", x.does(4, 0, 2), BAD);
        due("30 bad g", x.does(2, 0, -1), BAD);
        due("30 nothing held", x.does(0, 0, 2), -11);
        due("30 nothing held, either", x.does(2, 3, 0), -11);
        x.sheet(0, 0, 1);
        x.hold(2, 1, 0);
        due("30 a row", x.does(0, 0, 2), -13);
        due("30 a row, either", x.does(2, 0, 0), -13);
        x.hold(1, 2, 0);
        due("30 nothing before a row", x.does(2, 0, 1), -11);
        due("30 BAD before nothing", x.does(2, 5, 1), BAD);
        due("30 a row before by 0", x.does(2, 3, 0), -13);
    }

    private static void dueOrder(String what, long a, long b, long c, long d, int sign) {
        CircleTints x = new CircleTints();
        x.fraction(0, a, b);
        x.fraction(3, c, d);
        due("31 " + what, x.compare(0, 3), 1 + sign);
        due("31 other way " + what, x.compare(3, 0), 1 - sign);
        due("31 self " + what, x.compare(0, 0), 1);
    }

    private static void comparing() {
        long most = Long.MAX_VALUE, least = Long.MIN_VALUE;
        dueOrder("half, third", 1, 2, 1, 3, 1);
        dueOrder("like", 2, 4, 3, 6, 0);
        dueOrder("below 0", -1, 2, -1, 3, -1);
        dueOrder("signs", -1, 2, 1, 3, -1);
        dueOrder("nothing", 0, 1, 1, most, -1);
        dueOrder("nothing below", 0, 1, -1, most, 1);
        dueOrder("close", most - 1, most, most - 2, most - 1, 1);
        dueOrder("close below 0", 1 - most, most, 2 - most, most - 1, -1);
        dueOrder("great", least, 1, least + 1, 1, -1);
        dueOrder("great parts", least, most, -1, 1, -1);
        dueOrder("golden", 7540113804746346429L, 4660046610375530309L, 4660046610375530309L, 2880067194370816120L, -1);
        dueOrder("wholes", 5, 1, 5, 1, 0);
        dueOrder("whole and more", 5, 1, 11, 2, -1);
        CircleTints x = new CircleTints();
        due("31 bad", x.compare(-1, 0), BAD);
        due("31 bad g", x.compare(0, 4), BAD);
        due("31 nothing", x.compare(0, 0), -11);
        x.fraction(0, 1, 1);
        x.sheet(0, 0, 0);
        x.hold(1, 1, 0);
        due("31 a row", x.compare(0, 1), -13);
        due("31 nothing first", x.compare(1, 2), -11);
    }

    private static void holding() {
        CircleTints x = net("points 4; line even 3 1 3");
        due("29 a line", x.hold(0, 0, 0), 1);
        x.change(0, 0, 0);
        due("32 kind of then", x.told(0, 3), 4);
        due("32 gap of then", x.told(0, 4), 2);
        due("29 no such line", x.hold(0, 0, 1), BAD);
        due("29 no such line below", x.hold(0, 0, -1), BAD);
        due("29 no such sheet", x.hold(0, 1, 4), BAD);
        due("29 no such sheet below", x.hold(0, 1, -1), BAD);
        due("29 missing", x.hold(0, 1, 2), -11);
        due("29 bad what", x.hold(0, 3, 0), BAD);
        due("29 bad what below", x.hold(0, -1, 0), BAD);
        due("29 bad h", x.hold(4, 2, 0), BAD);
        due("29 bad h below", x.hold(-1, 2, 0), BAD);
        due("32 refused: as it was", x.told(0, 3), 4);
        fill(x, 2, 0, MAX, MAX, -1);
        due("29 a row", x.hold(1, 1, 2), 1);
        x.write(2, 0, 0);
        x.sheet(2, -1, 0);
        due("32 how many of then", x.told(1, 5), 3);
        due("32 as longs", x.told(1, 6), 2L * MAX - 1);
        fill(x, 2, 1, Long.MAX_VALUE, Long.MAX_VALUE);
        x.hold(2, 1, 2);
        due("32 that wrap", x.told(2, 6), -2);
        x.sheet(2, 0, 0);
        x.hold(2, 1, 2);
        due("32 none", x.told(2, 5) * 10 + x.told(2, 6), 0);
        x.fraction(3, 7, -2);
        due("32 cut", x.told(3, 2), -3);
        int[] holder = {3, 3, 3, 0, 0, 1, 1};
        for (int what = 0; what < 7; what++) {
            for (int h : new int[] {0, 1, 3}) {
                if (h != holder[what]) due("32 another thing", x.told(h, what), NO - 13);
            }
        }
        due("29 nothing, n does not matter", x.hold(3, 2, MIN), 1);
        due("32 nothing", x.told(3, 0), NO - 11);
        due("32 BAD before nothing", x.told(3, 7), NO + BAD);
        due("32 bad what", x.told(0, -1), NO + BAD);
        due("32 bad h", x.told(4, 0), NO + BAD);
        due("32 bad h below", x.told(-1, 0), NO + BAD);
    }

    private static void tape() {
        CircleTints x = new CircleTints();
        for (int n : new int[] {0, 5, -1, MIN, MAX}) due("33 bad", x.feed(1, n), BAD);
        for (int i = 1; i <= 29; i++) due("33 four", x.feed(-1, 4), 4 * i);
        due("33 three", x.feed(0, 3), 119);
        due("33 full", x.feed(0, 2), FULL);
        due("33 BAD before FULL", x.feed(0, 5), BAD);
        due("33 the last", x.feed(0, 1), 120);
        due("33 full for one", x.feed(0, 1), FULL);
        due("8 bytes", x.count(4), 120);
        due("34 had", x.wipe(), 120);
        due("34 empty", x.wipe(), 0);
        // "points 1" by unlike numbers of bytes; what stands above the lowest ones does not matter
        x.feed('p' << 24 | 'o' << 16 | 'i' << 8 | 'n', 4);
        x.feed(0x7f000000 | 't' << 16 | 's' << 8 | ' ', 3);
        due("33 in all", x.feed(-1 << 8 | '1', 1), 8);
        due("35 read", x.text(), 1);
        due("35 is so", x.count(0), 1);
        due("35 the tape is empty", x.count(4), 0);
    }

    private static void texts() {
        CircleTints x = new CircleTints();
        due("35 items", read(x, "points 2;points 3;line wide 2 4 0;list 1 3 5"), 4);
        due("35 points", x.count(0), 5);
        due("35 kind", x.lineOf(0, 0), 1);
        due("35 figure", x.lineOf(0, 1), 2);
        due("35 lesser", x.lineOf(0, 3), 0);
        due("35 greater", x.lineOf(0, 4), 4);
        due("35 list", x.list(1, 0), 56);
        due("35 all kinds", read(x, "line plain 1 0 1;line thin 1 0 2;line span 1 0 3;line even 1 1 2"), 4);
        for (int l = 1; l < 5; l++) due("35 kind of " + l, x.lineOf(l, 0), new int[] {1, 0, 2, 3, 4}[l]);
        due("35 blanks", read(x, "   list   0   0   39   ;  points   1  "), 2);
        due("35 all places", x.list(0, 0), ALL);
        due("35 without blanks", read(x, "list0 0 0;list1 39 39"), 2);
        due("35 place 0", x.list(0, 0), 1);
        due("35 place 39", x.list(1, 0), 1L << 39);
        due("35 noughts before", read(x, "list 0000 007 00008"), 1);
        due("35 seven, eight", x.list(0, 0), 384);
        due("35 the last list counts", read(x, "list 0 1 1;list 0 2 2"), 2);
        due("35 the last", x.list(0, 0), 4);
        x = new CircleTints();
        due("35 120 bytes", read(x, "points 6" + " ".repeat(112)), 1);
    }

    private static void dueFault(String before, String text, int place) {
        CircleTints x = before.isEmpty() ? new CircleTints() : net(before);
        int points = x.count(0), lines = x.count(1), gaps = x.count(2);
        due("35 fault in " + text, read(x, text), -100 - place);
        due("35 tape after " + text, x.count(4), 0);
        due("35 points after " + text, x.count(0), points);
        due("35 lines after " + text, x.count(1), lines);
        due("35 gaps after " + text, x.count(2), gaps);
        if (points > 0) due("35 list after " + text, x.list(0, 0), ALL);
    }

    private static void faults() {
        dueFault("", "", 0);
        dueFault("", "   ", 3);
        dueFault("", ";", 0);
        dueFault("", "5", 0);
        dueFault("", "point 1", 0);
        dueFault("", "pointss 1", 0);
        dueFault("", "Points 1", 0);
        dueFault("", "joints 1", 0);
        dueFault("points 2", "vine plain 1 0 1", 0);
        dueFault("points 2", "mist 0 1 1", 0);
        dueFault("points 2", "sound plain 1 0 1", 0);
        dueFault("points 2", "line side 1 0 1", 5);
        dueFault("points 2", "line oven 1 0 1", 5);
        dueFault("", "pointS 1", 0);
        dueFault("", "points", 6);
        dueFault("", "points ", 7);
        dueFault("", "points 0", 7);
        dueFault("", "points 7", 7);
        dueFault("", "points 1000", 7);
        dueFault("", "points 4294967297", 7);
        dueFault("", "points 18446744073709551617", 7);
        dueFault("", "points x", 7);
        dueFault("", "points ;", 7);
        dueFault("", "points -1", 7);
        dueFault("", "points 1 2", 9);
        dueFault("", "points 1x", 8);
        dueFault("", "points 1;;", 9);
        dueFault("", "points 1; ", 10);
        dueFault("", "points 4;points 3", 16);
        dueFault("", "points 1\t", 8);
        dueFault("", "points 1" + (char) 0, 8);
        dueFault("", "points 1" + (char) 255, 8);
        dueFault("", "line plain 1 0 1", 13);
        dueFault("points 2", "line", 4);
        dueFault("points 2", "line 1", 5);
        dueFault("points 2", "line plane 1 0 1", 5);
        dueFault("points 2", "line plain wide", 11);
        dueFault("points 2", "line plain 0 0 1", 11);
        dueFault("points 2", "line plain 4 0 1", 11);
        dueFault("points 2", "line plain 1 2 1", 13);
        dueFault("points 2", "line plain 1 0 2", 15);
        dueFault("points 2", "line plain 1 1 1", 15);
        dueFault("points 2", "line plain 1 0", 14);
        dueFault("points 2;line thin 1 0 1", "line plain 1 1 0", 15);
        dueFault("points 2", "points 1;line plain 1 0 1;line plain 1 0 1", 41);
        dueFault("points 2", "round plain 1 0 0", 16);
        dueFault("points 2", "round plain 1 1 0", 16);
        dueFault("points 2", "round plain 1 0 2", 16);
        dueFault("points 2", "round plain 1 2 3", 14);
        dueFault("points 2", "round plain 9 0 1", 12);
        dueFault("points 2", "round round", 6);
        dueFault("points 2", "list 2 0 0", 5);
        dueFault("points 2", "list 0 5 4", 9);
        dueFault("points 2", "list 0 5 40", 9);
        dueFault("points 2", "list 0 40 40", 7);
        dueFault("points 2", "list 0 1", 8);
        dueFault("points 2", "list 0 1 2;list 1 9 8", 20);
        dueFault(FIVE_AND_ALL_LINES, "line plain 1 0 1", 0);
        dueFault(FIVE_AND_ALL_LINES, "points 1; line", 10);
    }

    private static void rounding() {
        CircleTints x = net("points 6;round even 3 1 4");
        int[][] due = {{1, 2}, {2, 3}, {3, 4}, {1, 4}};
        due("35 lines round", x.count(1), 4);
        for (int l = 0; l < 4; l++) {
            due("35 round, lesser", x.lineOf(l, 3), due[l][0]);
            due("35 round, greater", x.lineOf(l, 4), due[l][1]);
            due("35 round, kind", x.lineOf(l, 0) * 10 + x.lineOf(l, 1), 43);
        }
        due("35 those there are stay", read(x, "round plain 1 0 3"), 1);
        due("35 two more", x.count(1), 6);
        due("35 0 to 1 first", x.lineOf(4, 3) * 10 + x.lineOf(4, 4), 1);
        due("35 0 to 3 last", x.lineOf(5, 3) * 10 + x.lineOf(5, 4), 3);
        due("35 kept", x.lineOf(0, 0), 4);
        due("35 next to it", read(x, "round plain 1 4 5"), 1);
        due("35 just one line", x.count(1), 7);
        due("35 while there is room", read(x, "line plain 1 0 2;line plain 1 2 4;round wide 1 0 5"), 3);
        due("35 ten", x.count(1), 10);
        due("35 nothing more, yet no fault", read(x, "round wide 1 1 5"), 1);
        due("35 still ten", x.count(1), 10);
        x = net("points 6;round plain 1 0 4;line plain 1 0 2;line plain 1 0 3;line plain 1 1 3");
        due("35 two left", read(x, "line plain 1 1 4;round wide 1 2 5"), 2);
        due("35 full", x.count(1), 10);
        due("35 the last one", x.lineOf(9, 3) * 10 + x.lineOf(9, 4), 45);
    }

    private static void draws() {
        CircleTints x = new CircleTints();
        due("36 was", x.seed(-7), 1);
        due("36 is", x.count(3), -7);
        x.seed(1);
        due("37 no odds", x.deal(6, 0), 0);
        int z = 1;
        for (int i = 0; i < 15; i++) z = z * 1103515245 + 12345;
        due("37 a draw for each two", x.count(3), z);
        due("37 one point", x.deal(1, 10), 0);
        due("37 no draw for one", x.count(3), z);
        due("37 points", x.count(0), 1);
        x.list(0, 0);
        x.seed(99);
        due("37 three", x.deal(3, 10), 3);
        due("37 lists as at first", x.list(0, 3), ALL);
        z = 99;
        int[][] pairs = {{0, 1}, {0, 2}, {1, 2}};
        for (int l = 0; l < 3; l++) {
            z = z * 1103515245 + 12345;
            z = z * 1103515245 + 12345;
            due("37 kind", x.lineOf(l, 0), (z >>> 16) % 5);
            z = z * 1103515245 + 12345;
            due("37 figure", x.lineOf(l, 1), 1 + (z >>> 16) % 3);
            due("37 lesser", x.lineOf(l, 3), pairs[l][0]);
            due("37 greater", x.lineOf(l, 4), pairs[l][1]);
        }
        int[][] bad = {{0, 5}, {7, 5}, {3, -1}, {3, 11}, {MIN, 5}, {3, MAX}};
        for (int[] b : bad) due("37 bad", x.deal(b[0], b[1]), BAD);
        due("37 as it was", x.count(3) * 10L + x.count(1), z * 10L + 3);
        x.seed(5);
        due("37 while there is room", x.deal(6, 10), 10);
        z = 5;
        for (int i = 0; i < 30; i++) z = z * 1103515245 + 12345;
        due("37 no draw without room", x.count(3), z);
        x.seed(5);
        int hits = 0;
        z = 5;
        for (int i = 0; i < 6; i++) {
            z = z * 1103515245 + 12345;
            if ((z >>> 16) % 10 < 4) {
                hits++;
                z = z * 1103515245 + 12345;
                z = z * 1103515245 + 12345;
            }
        }
        due("37 by odds", x.deal(4, 4), hits);
        due("37 z by odds", x.count(3), z);
    }

    private static void sheets() {
        CircleTints x = new CircleTints();
        due("38 ints", x.sheet(0, 0, 40), 1);
        due("38 longs", x.sheet(3, 1, 0), 1);
        due("38 too many", x.sheet(0, 0, 41), BAD);
        due("38 below 0", x.sheet(0, 1, -1), -14);
        due("38 far below 0", x.sheet(0, 1, MIN), -14);
        due("38 bad sort", x.sheet(0, 2, -1), BAD);
        due("38 bad sort below", x.sheet(0, -2, 1), BAD);
        due("38 bad s", x.sheet(4, 0, -1), BAD);
        due("38 bad s below", x.sheet(-1, -1, 0), BAD);
        due("39 write", x.write(0, 39, MAX), 1);
        due("39 outside", x.write(0, 40, 1), -12);
        due("39 outside below", x.write(0, -1, 1), -12);
        due("39 outside before MUCH", x.write(0, 40, 1L << 31), -12);
        due("39 no int", x.write(0, 39, 1L << 31), MUCH);
        due("39 no int below", x.write(0, 39, -(1L << 31) - 1), MUCH);
        due("40 as it was", x.item(0, 39), MAX);
        due("39 least int", x.write(0, 39, MIN), 1);
        due("40 least int", x.item(0, 39), MIN);
        due("39 empty", x.write(3, 0, 1), -12);
        due("39 missing", x.write(1, 0, 1), -11);
        due("39 bad", x.write(4, 0, 1), BAD);
        due("39 bad below", x.write(-1, 0, 1), BAD);
        due("40 missing", x.item(1, 0), NO - 11);
        due("40 outside", x.item(0, 40), NO - 12);
        due("40 outside below", x.item(0, -1), NO - 12);
        due("40 bad", x.item(4, 0), NO + BAD);
        due("40 bad below", x.item(-1, 0), NO + BAD);
        due("38 again, all 0", x.sheet(0, 0, 40), 1);
        due("38 is 0", x.item(0, 39), 0);
        x.sheet(0, 1, 1);
        due("39 a long", x.write(0, 0, Long.MIN_VALUE), 1);
        due("40 a long", x.item(0, 0), Long.MIN_VALUE);
        due("38 missing, n does not matter", x.sheet(0, -1, 99), 1);
        due("40 gone", x.item(0, 0), NO - 11);
        due("38 missing, n below 0", x.sheet(0, -1, -9), 1);
    }

    private static void copies() {
        CircleTints x = new CircleTints();
        fill(x, 0, 0, 1, 2, 3, 4, 5);
        fill(x, 1, 0, 6, 7, 8);
        fill(x, 2, 1, 9);
        due("41 to another", x.copy(0, 1, 1, 0, 2), 2);
        dueRow("41 to another", x, 1, 2, 3, 8);
        due("41 up", x.copy(0, 0, 0, 1, 4), 4);
        dueRow("41 up", x, 0, 1, 1, 2, 3, 4);
        due("41 down", x.copy(0, 1, 0, 0, 4), 4);
        dueRow("41 down", x, 0, 1, 2, 3, 4, 4);
        due("41 none, at the end", x.copy(0, 5, 1, 3, 0), 0);
        due("41 bad s", x.copy(4, 0, 0, 0, 1), BAD);
        due("41 bad t", x.copy(3, 0, -1, 0, 1), BAD);
        due("41 missing s", x.copy(3, 0, 0, 0, 1), -11);
        due("41 missing t", x.copy(2, 0, 3, 0, -1), -11);
        due("41 sorts", x.copy(0, 0, 2, 0, 9), -13);
        due("41 n below 0", x.copy(0, 0, 1, 0, -1), -12);
        due("41 n least", x.copy(0, 0, 1, 0, MIN), -12);
        due("41 n most", x.copy(0, 1, 1, 1, MAX), -12);
        due("41 i below 0", x.copy(0, -1, 1, 0, 1), -12);
        due("41 j below 0", x.copy(0, 0, 1, -1, 1), -12);
        due("41 i most", x.copy(0, MAX, 1, 0, 1), -12);
        due("41 j most", x.copy(0, 0, 1, MAX, 1), -12);
        due("41 i too far", x.copy(0, 4, 1, 0, 2), -12);
        due("41 j too far", x.copy(0, 0, 1, 2, 2), -12);
        dueRow("41 as it was", x, 1, 2, 3, 8);
    }

    private static void painting() {
        CircleTints x = net("points 5; round plain 1 0 4");
        x.sheet(2, 1, 40);
        due("42 paint", x.paint(2, 7, 3, 0), NONE);
        due("42 as it was", x.item(2, 39), 0);
        due("42 truly", x.paint(2, 8, 3, 0), 5);
        dueRow("42 row", x, 2, 0, 3, 6, 1, 4);
        due("42 ints", x.write(2, 0, 1L << 33), MUCH);
        due("42 is a colouring", x.judge(2, 8, 3), NONE);
        int[][] bad = {{4, 5, 2, 0}, {-1, 5, 2, 0}, {0, 0, 2, 0}, {0, 41, 2, 0}, {0, 17, 1, 1}, {0, 5, 7, 0}, {0, 5, 2, 2}};
        for (int[] b : bad) due("42 bad", x.paint(b[0], b[1], b[2], b[3]), BAD);
        x.list(0, 8);
        due("42 by lists", x.paint(0, 5, 2, 1), 5);
        dueRow("42 by lists", x, 0, 3, 0, 2, 4, 1);
        x.list(0, 0);
        due("42 none by lists", x.paint(0, 5, 2, 1), NONE);
        dueRow("42 as before", x, 0, 3, 0, 2, 4, 1);
    }

    private static void images() {
        CircleTints x = net("points 3; line wide 2 0 2; list 1 4 4");
        x.seed(77);
        due("43 kept", x.image(), 1);
        due("12 ratio", x.ratio(0), 6);
        x.points(3);
        x.line(0, 1, 4, 5);
        x.change(0, 0, 0);
        x.list(1, 9);
        x.seed(3);
        x.sheet(0, 0, 3);
        x.fraction(0, 1, 2);
        x.feed('p', 1);
        due("44 back", x.back(), 1);
        due("44 points", x.count(0), 3);
        due("44 lines", x.count(1), 1);
        due("44 kind", x.lineOf(0, 0), 1);
        due("44 z", x.count(3), 77);
        due("44 list", x.list(1, 5), 16);
        due("44 ratio", x.ratio(0), 6);
        due("44 sheets stay", x.item(0, 2), 0);
        due("44 holds stay", x.told(0, 1), 2);
        due("44 the tape stays", x.count(4), 1);
        due("44 it stays", x.back(), 1);
        due("44 list again", x.list(1, 16), 16);
        x.deal(6, 10);
        due("43 another", x.image(), 10);
        x.deal(2, 0);
        due("44 the newer one", x.back(), 10);
        x.drop(0);
        due("44 new points after it", x.deal(1, 0), 0);
        x.image();
        x.points(1);
        x.list(1, 0);
        x.back();
        x.points(1);
        due("44 a new point has all places", x.list(1, 0), ALL);
    }
}
