/**
 * The document's promises one by one: ordinary inputs, the edges that it names, and wrong inputs. The
 * numbers due were worked out from the document's words by hand or with a pocket reckoner, not with PaintBox.
 */
public final class PromiseTest {
    private static final int BAD = -1;
    private static final int NOT = -2;
    private static final int FULL = -3;
    private static final int LOW = Integer.MIN_VALUE;
    private static final int HIGH = Integer.MAX_VALUE;
    private static int wrong = 0;
    private static int promise = 0;

    private static void due(String call, int got, int want) {
        if (got != want) {
            wrong++;
            System.out.println("promise " + promise + ": " + call + " answered " + got + ", due is " + want);
        }
    }

    public static void main(String[] args) {
        aNewObject();
        tube();
        band();
        ofTube();
        row();
        lamp();
        eye();
        years();
        press();
        pour();
        waste();
        drops();
        thick();
        seen();
        over();
        hiding();
        ground();
        lay();
        back();
        look();
        missed();
        tone();
        apart();
        match();
        matched();
        price();
        glaze();
        glazed();
        keep();
        clear();
        fewest();
        count();
        System.out.println(wrong == 0 ? "PromiseTest: all answers are as due" : "PromiseTest: " + wrong + " wrong");
        if (wrong != 0) {
            System.exit(1);
        }
    }

    private static PaintBox box(int tubes) {
        PaintBox x = new PaintBox();
        for (int i = 0; i < tubes; i++) {
            x.tube(i + 1, 0, 9999);
        }
        return x;
    }

    private static void paint(PaintBox x, int tube, int k, int s) {
        for (int b = 0; b < 8; b++) {
            x.band(tube, b, k, s);
        }
    }

    /** Tube 0 white, tube 1 black, tube 2 as it came. */
    private static PaintBox whiteBlackGrey() {
        PaintBox x = box(3);
        paint(x, 0, 0, 999);
        paint(x, 1, 999, 1);
        return x;
    }

    private static void fill(PaintBox x, int tube, int pot, int n) {
        for (int left = n; left > 0; left -= 99) {
            x.press(tube, pot, Math.min(99, left));
        }
    }

    private static void aNewObject() {
        promise = 1;
        PaintBox x = new PaintBox();
        for (int what = 0; what < 8; what++) {
            due("count " + what, x.count(what), 0);
        }
        for (int i = 0; i < 10; i++) {
            due("drops", x.drops(i, -1), 0);
            due("back", x.back(i, 7, 0), 9000);
            due("ground", x.ground(i, 9000), 9000);
        }
        due("ofTube", x.ofTube(0, 0), BAD);
        due("matched", x.matched(0), BAD);
        due("price", x.price(), BAD);
        due("glazed", x.glazed(0), BAD);
        due("apart: tone 5000 each", x.apart(0, 0), 12000);
        PaintBox y = new PaintBox();
        y.tube(1, 1, 1);
        y.lamp(0, 0, 3);
        y.ground(0, 1);
        due("another box has its own tubes", x.count(0), 0);
        due("and its own lamps", x.lamp(0, 0, 10), 10);
        due("and its own areas", x.back(0, 0, 0), 9000);
    }

    private static void tube() {
        promise = 2;
        PaintBox x = new PaintBox();
        int[][] bad = {{-1, 0, 0}, {1000, 0, 0}, {0, -1, 0}, {0, 1000, 0}, {0, 0, -1}, {0, 0, 10000}, {LOW, HIGH, 0}};
        for (int[] b : bad) {
            due("tube off bounds", x.tube(b[0], b[1], b[2]), BAD);
        }
        due("nothing came", x.count(0), 0);
        due("tube", x.tube(0, 0, 0), 0);
        due("tube", x.tube(999, 999, 9999), 1);
        for (int i = 2; i < 12; i++) {
            due("tube", x.tube(i, i, i), i);
        }
        for (int b = 0; b < 8; b++) {
            due("K at first", x.row(11, b, 0, 0), 100);
            due("S at first", x.row(11, b, 0, 1), 100);
        }
        due("a thirteenth", x.tube(1, 1, 1), FULL);
        due("BAD before FULL", x.tube(1000, 1, 1), BAD);
        due("still twelve", x.count(0), 12);
        due("no thirteenth", x.ofTube(12, 0), BAD);
    }

    private static void band() {
        promise = 3;
        PaintBox x = box(2);
        int[][] bad = {{-1, 0, 1, 1}, {2, 0, 1, 1}, {0, -1, 1, 1}, {0, 8, 1, 1}, {0, 0, -1, 1}, {0, 0, 1000, 1},
            {0, 0, 1, 0}, {0, 0, 1, 1000}, {HIGH, 0, 1, 1}, {0, LOW, 1, 1}};
        for (int[] b : bad) {
            due("band off bounds", x.band(b[0], b[1], b[2], b[3]), BAD);
        }
        due("nothing changed", x.row(0, 0, 0, 0) * 1000 + x.row(0, 0, 0, 1), 100100);
        due("band", x.band(1, 7, 0, 999), 1);
        due("band", x.band(1, 6, 999, 1), 1);
        due("K", x.row(1, 7, 0, 0), 0);
        due("S", x.row(1, 7, 0, 1), 999);
        due("K of the next", x.row(1, 6, 0, 0), 999);
        due("of another tube", x.row(0, 7, 0, 0), 100);
        x.press(0, 0, 1);
        due("in a pot", x.thick(0, 0), 2680);
        x.band(0, 0, 0, 5);
        due("what is in a pot changes", x.thick(0, 0), 10000);
        x.band(0, 0, 100, 100);
        x.lay(0, 0, 3);
        due("laid", x.back(0, 0, 0), 8351);
        x.band(0, 0, 999, 1);
        due("what was laid changes", x.back(0, 0, 0), 7735);
        x.band(0, 0, 100, 100);
        due("and back again", x.back(0, 0, 0), 8351);
    }

    private static void ofTube() {
        promise = 4;
        PaintBox x = new PaintBox();
        x.tube(7, 13, 100);
        x.tube(8, 14, 50);
        x.press(0, 0, 10);
        x.press(0, 9, 20);
        x.press(1, 0, 5);
        x.press(0, 1, 3);
        x.press(0, 2, 4);
        x.lay(1, 0, 1);
        x.waste(2);
        int[] first = {7, 13, 63, 30, 3, 4};
        int[] second = {8, 14, 45, 5, 0, 0};
        for (int what = 0; what < 6; what++) {
            due("ofTube(0, " + what + ")", x.ofTube(0, what), first[what]);
            due("ofTube(1, " + what + ")", x.ofTube(1, what), second[what]);
        }
        for (int off : new int[] {-1, 6, LOW, HIGH}) {
            due("what off bounds", x.ofTube(0, off), BAD);
        }
        for (int off : new int[] {-1, 2, 12, LOW, HIGH}) {
            due("no such tube", x.ofTube(off, 0), BAD);
        }
    }

    private static void row() {
        promise = 5;
        PaintBox x = new PaintBox();
        x.tube(0, 15, 0);
        x.tube(0, 1, 0);
        x.tube(0, 999, 0);
        int[] steps = {100, 98, 96, 94, 92};
        for (int y = 0; y < 5; y++) {
            due("the rest is away each year", x.row(0, 0, y, 0), steps[y]);
            due("S stays", x.row(0, 0, y, 1), 100);
        }
        x.band(1, 3, 999, 1);
        due("99 years", x.row(1, 3, 99, 0), 900);
        x.band(2, 3, 999, 1);
        due("no year", x.row(2, 3, 0, 0), 999);
        due("one year", x.row(2, 3, 1, 0), 0);
        x.years(4);
        due("what is in a tube does not fade", x.row(0, 0, 0, 0), 100);
        int[][] bad = {{3, 0, 0, 0}, {-1, 0, 0, 0}, {0, 8, 0, 0}, {0, -1, 0, 0}, {0, 0, -1, 0}, {0, 0, 100, 0},
            {0, 0, 0, 2}, {0, 0, 0, -1}, {0, 0, HIGH, 1}};
        for (int[] b : bad) {
            due("row off bounds", x.row(b[0], b[1], b[2], b[3]), BAD);
        }
    }

    private static void lamp() {
        promise = 6;
        PaintBox x = new PaintBox();
        for (int i = 0; i < 4; i++) {
            for (int b = 0; b < 8; b++) {
                due("at first", x.lamp(i, b, 10 * i + b), 10);
            }
        }
        due("what it was", x.lamp(3, 7, 99), 37);
        due("what it was", x.lamp(3, 7, 0), 99);
        due("of another", x.lamp(2, 7, 1), 27);
        int[][] bad = {{-1, 0, 1}, {4, 0, 1}, {0, -1, 1}, {0, 8, 1}, {0, 0, -1}, {0, 0, 100}, {HIGH, LOW, 1}};
        for (int[] b : bad) {
            due("lamp off bounds", x.lamp(b[0], b[1], b[2]), BAD);
        }
        due("nothing changed", x.lamp(0, 0, 5), 0);
    }

    private static void eye() {
        promise = 7;
        PaintBox x = new PaintBox();
        int[][] first = {{0, 0, 0, 0, 0, 1, 1, 1}, {0, 0, 0, 1, 1, 1, 0, 0}, {1, 1, 1, 0, 0, 0, 0, 0}};
        for (int i = 0; i < 3; i++) {
            for (int b = 0; b < 8; b++) {
                due("at first", x.eye(i, b, 10 * i + b), first[i][b]);
            }
        }
        due("what it was", x.eye(2, 7, 99), 27);
        due("what it was", x.eye(2, 7, 0), 99);
        int[][] bad = {{-1, 0, 1}, {3, 0, 1}, {0, -1, 1}, {0, 8, 1}, {0, 0, -1}, {0, 0, 100}, {LOW, 0, HIGH}};
        for (int[] b : bad) {
            due("eye off bounds", x.eye(b[0], b[1], b[2]), BAD);
        }
        due("nothing changed", x.eye(0, 0, 5), 0);
    }

    private static void years() {
        promise = 8;
        PaintBox x = new PaintBox();
        for (int n : new int[] {0, -1, 100, LOW, HIGH}) {
            due("years off bounds", x.years(n), BAD);
        }
        due("years", x.years(1), 1);
        due("beyond 99", x.years(99), BAD);
        due("the year stays", x.count(1), 1);
        due("years", x.years(98), 99);
        due("beyond 99", x.years(1), BAD);
        due("99 at once", new PaintBox().years(99), 99);
    }

    private static void press() {
        promise = 9;
        PaintBox x = new PaintBox();
        x.tube(0, 0, 100);
        x.tube(0, 0, 9999);
        int[][] bad = {{-1, 0, 1}, {2, 0, 1}, {0, -1, 1}, {0, 10, 1}, {0, 0, 0}, {0, 0, 100}, {0, 0, -5}, {HIGH, HIGH, HIGH}};
        for (int[] b : bad) {
            due("press off bounds", x.press(b[0], b[1], b[2]), BAD);
        }
        due("press", x.press(0, 0, 99), 99);
        due("the tube holds fewer", x.press(0, 0, 2), NOT);
        due("nothing changed", x.drops(0, -1) * 1000 + x.ofTube(0, 2), 99001);
        due("its last drop", x.press(0, 0, 1), 100);
        due("empty", x.press(0, 0, 1), NOT);
        fill(x, 1, 0, 899);
        due("999 together", x.drops(0, -1), 999);
        due("more than 999", x.press(1, 0, 1), FULL);
        due("NOT before FULL", x.press(0, 0, 1), NOT);
        due("BAD before NOT", x.press(0, 0, 100), BAD);
        due("the tube keeps its drops", x.ofTube(1, 2), 9999 - 899);
        due("another pot", x.press(1, 9, 7), 7);
    }

    private static void pour() {
        promise = 10;
        PaintBox x = box(2);
        x.press(0, 0, 3);
        x.press(1, 0, 4);
        x.press(1, 1, 5);
        for (int off : new int[] {-1, 10, LOW, HIGH}) {
            due("pour off bounds", x.pour(off, 0), BAD);
            due("pour off bounds", x.pour(0, off), BAD);
        }
        due("one and the same", x.pour(0, 0), BAD);
        due("one and the same, empty", x.pour(5, 5), BAD);
        due("nothing is in it", x.pour(5, 0), NOT);
        due("pour", x.pour(0, 1), 12);
        due("all went", x.drops(0, -1), 0);
        due("by tube", x.drops(1, 0) * 100 + x.drops(1, 1), 309);
        fill(x, 0, 2, 987);
        due("999 together", x.pour(1, 2), 999);
        x.press(0, 3, 1);
        due("more than 999", x.pour(3, 2), FULL);
        due("more than 999", x.pour(2, 3), FULL);
        due("nothing into a full one", x.pour(4, 2), NOT);
        due("nothing changed", x.drops(3, -1) * 1000 + x.drops(2, -1), 1999);
        due("drops only move", x.count(3), 1000);
    }

    private static void waste() {
        promise = 11;
        PaintBox x = box(2);
        x.press(0, 4, 3);
        x.press(1, 4, 9);
        due("waste", x.waste(4), 12);
        due("emptied", x.drops(4, -1), 0);
        due("lost by tube", x.ofTube(0, 5) * 100 + x.ofTube(1, 5), 309);
        due("empty", x.waste(4), NOT);
        x.press(1, 4, 1);
        due("waste", x.waste(4), 1);
        due("lost is counted on", x.ofTube(1, 5), 10);
        due("not back in the tube", x.ofTube(1, 2), 9989);
        for (int off : new int[] {-1, 10, LOW, HIGH}) {
            due("waste off bounds", x.waste(off), BAD);
        }
    }

    private static void drops() {
        promise = 12;
        PaintBox x = box(2);
        x.press(0, 9, 3);
        x.press(1, 9, 4);
        due("of all", x.drops(9, -1), 7);
        due("of one", x.drops(9, 0), 3);
        due("of the other", x.drops(9, 1), 4);
        due("of an empty pot", x.drops(0, 1), 0);
        for (int off : new int[] {-2, 2, 12, LOW, HIGH}) {
            due("no such tube", x.drops(9, off), BAD);
        }
        for (int off : new int[] {-1, 10, LOW, HIGH}) {
            due("no such pot", x.drops(off, -1), BAD);
        }
    }

    private static void thick() {
        promise = 13;
        PaintBox x = box(2);
        x.press(0, 0, 2);
        int[][] rows = {{100, 100, 2680}, {300, 100, 1271}, {100, 300, 4515}, {999, 1, 6}, {1, 999, 9563}, {0, 1, 10000}};
        for (int[] r : rows) {
            x.band(0, 5, r[0], r[1]);
            due("thick of " + r[0] + " and " + r[1], x.thick(0, 5), r[2]);
        }
        x.band(0, 5, 300, 100);
        x.band(1, 5, 0, 500);
        x.press(1, 0, 1);
        due("of a mixture", x.thick(0, 5), 2923);
        due("of another band", x.thick(0, 4), 2680);
        x.years(50);
        due("pots do not fade", x.thick(0, 5), 2923);
        due("an empty pot", x.thick(1, 0), NOT);
        for (int off : new int[] {-1, 10, LOW, HIGH}) {
            due("no such pot", x.thick(off, 0), BAD);
        }
        for (int off : new int[] {-1, 8, LOW, HIGH}) {
            due("no such band", x.thick(0, off), BAD);
            due("BAD before NOT", x.thick(1, off), BAD);
        }
        PaintBox y = box(1);
        paint(y, 0, 999, 1);
        fill(y, 0, 0, 999);
        due("the most drops of the darkest", y.thick(0, 0), 6);
        PaintBox full = box(12);
        for (int t = 0; t < 12; t++) {
            full.band(t, 0, 100 + 10 * t, 155);
            full.press(t, 0, 1);
        }
        due("all twelve: 1860 and 1860", full.thick(0, 0), 2680);
        full.lay(0, 0, 1);
        due("and laid over 9000", full.back(0, 0, 0), 8777);
    }

    private static void seen() {
        promise = 14;
        PaintBox x = box(1);
        x.press(0, 0, 1);
        x.band(0, 0, 0, 1);
        x.band(0, 5, 300, 100);
        due("sight 0: 1271, 2680, 2680", x.seen(0, 0, 0), 2210);
        due("sight 1: 2680, 2680, 1271", x.seen(0, 0, 1), 2210);
        due("sight 2: 10000, 2680, 2680", x.seen(0, 0, 2), 5120);
        x.lamp(1, 0, 99);
        x.lamp(1, 1, 1);
        x.lamp(1, 2, 0);
        due("under another lamp", x.seen(0, 1, 2), 9926);
        x.eye(2, 1, 99);
        due("by another eye", x.seen(0, 1, 2), 6340);
        for (int b = 0; b < 8; b++) {
            x.lamp(2, b, 0);
        }
        due("in the dark", x.seen(0, 2, 2), 0);
        for (int b = 0; b < 8; b++) {
            x.lamp(3, b, 99);
            x.eye(0, b, 99);
            x.band(0, b, 0, 999);
        }
        due("the brightest", x.seen(0, 3, 0), 10000);
        due("an empty pot", x.seen(1, 0, 0), NOT);
        int[][] bad = {{-1, 0, 0}, {10, 0, 0}, {0, -1, 0}, {0, 4, 0}, {0, 0, -1}, {0, 0, 3}, {1, 4, 0}, {LOW, HIGH, 0}};
        for (int[] b : bad) {
            due("seen off bounds", x.seen(b[0], b[1], b[2]), BAD);
        }
    }

    private static void over() {
        promise = 15;
        PaintBox x = box(1);
        x.press(0, 0, 7);
        due("a thin one over 0", x.over(0, 0, 1, 0), 125);
        due("over 10000", x.over(0, 0, 1, 10000), 9751);
        due("two", x.over(0, 0, 2, 10000), 9508);
        due("the thickest over 0", x.over(0, 0, 200, 0), 2686);
        due("the thickest over 10000", x.over(0, 0, 200, 10000), 2708);
        x.band(0, 3, 200, 100);
        due("with rests away", x.over(0, 3, 1, 5000), 4856);
        due("three", x.over(0, 3, 3, 5000), 4586);
        due("nothing was laid", x.drops(0, -1) * 10 + x.count(7), 70);
        due("an empty pot", x.over(1, 0, 1, 0), NOT);
        int[][] bad = {{-1, 0, 1, 0}, {10, 0, 1, 0}, {0, -1, 1, 0}, {0, 8, 1, 0}, {0, 0, 0, 0}, {0, 0, 201, 0},
            {0, 0, 1, -1}, {0, 0, 1, 10001}, {1, 0, 0, 0}, {0, 0, HIGH, LOW}};
        for (int[] b : bad) {
            due("over off bounds", x.over(b[0], b[1], b[2], b[3]), BAD);
        }
    }

    private static void hiding() {
        promise = 16;
        PaintBox x = box(1);
        x.press(0, 0, 1);
        int[][] grey = {{10000, 1}, {9626, 1}, {9625, 2}, {5000, 18}, {100, 109}, {10, NOT}, {0, NOT}};
        for (int[] g : grey) {
            due("hiding by " + g[0], x.hiding(0, g[0]), g[1]);
        }
        x.band(0, 7, 0, 100);
        due("the slowest band", x.hiding(0, 5000), 40);
        due("the slowest band", x.hiding(0, 2000), 160);
        due("at the very last", x.hiding(0, 1671), 200);
        due("hides too late", x.hiding(0, 1670), NOT);
        x.band(0, 7, 1, 999);
        x.band(0, 6, 0, 100);
        due("one at the very last, one too late", x.hiding(0, 1671), NOT);
        due("both", x.hiding(0, 1678), 200);
        paint(x, 0, 999, 1);
        due("black hides wholly", x.hiding(0, 0), 135);
        due("an empty pot", x.hiding(1, 10000), NOT);
        int[][] bad = {{-1, 0}, {10, 0}, {0, -1}, {0, 10001}, {1, -1}, {HIGH, LOW}};
        for (int[] b : bad) {
            due("hiding off bounds", x.hiding(b[0], b[1]), BAD);
        }
    }

    private static void ground() {
        promise = 17;
        PaintBox x = box(1);
        due("ground", x.ground(9, 0), 9000);
        due("ground", x.ground(9, 10000), 0);
        due("what it sends back", x.back(9, 3, 0), 10000);
        x.press(0, 0, 1);
        x.lay(0, 9, 1);
        due("it has layers", x.ground(9, 5), NOT);
        due("nothing changed", x.back(9, 3, 0), 9751);
        due("another area", x.ground(8, 5), 9000);
        int[][] bad = {{-1, 0}, {10, 0}, {0, -1}, {0, 10001}, {9, -1}, {LOW, HIGH}};
        for (int[] b : bad) {
            due("ground off bounds", x.ground(b[0], b[1]), BAD);
        }
        due("nothing changed", x.ground(0, 1), 9000);
    }

    private static void lay() {
        promise = 18;
        PaintBox x = box(2);
        due("an empty pot", x.lay(0, 0, 1), NOT);
        x.press(0, 0, 2);
        x.press(1, 0, 5);
        int[][] bad = {{-1, 0, 1}, {10, 0, 1}, {0, -1, 1}, {0, 10, 1}, {0, 0, 0}, {0, 0, 201}, {1, 0, 0}, {LOW, HIGH, 1}};
        for (int[] b : bad) {
            due("lay off bounds", x.lay(b[0], b[1], b[2]), BAD);
        }
        due("lay", x.lay(0, 0, 200), 1);
        due("the pot is empty", x.drops(0, -1), 0);
        due("laid by tube", x.ofTube(0, 4) * 10 + x.ofTube(1, 4), 25);
        due("and empty is refused", x.lay(0, 0, 1), NOT);
        for (int i = 2; i <= 10; i++) {
            x.press(0, 3, 1);
            due("lay", x.lay(3, 0, 1), i);
        }
        due("NOT before FULL", x.lay(0, 0, 1), NOT);
        x.press(0, 0, 4);
        due("an eleventh", x.lay(0, 0, 1), FULL);
        due("the pot keeps its drops", x.drops(0, 0), 4);
        due("nothing counted", x.count(4), 16);
        due("another area", x.lay(0, 1, 1), 1);
    }

    private static void back() {
        promise = 19;
        PaintBox x = new PaintBox();
        x.tube(0, 50, 99);
        x.tube(0, 500, 99);
        paint(x, 1, 400, 100);
        x.press(0, 0, 4);
        x.lay(0, 2, 20);
        x.years(2);
        x.press(1, 0, 3);
        x.lay(0, 2, 10);
        int[][] due = {{2, 3976}, {3, 4380}, {5, 5398}, {20, 7417}, {99, 9060}};
        for (int[] d : due) {
            due("in year " + d[0], x.back(2, 6, d[0]), d[1]);
        }
        due("a year that is over", x.back(2, 6, 1), BAD);
        due("a bare area", x.back(0, 0, 99), 9000);
        x.years(3);
        due("this year", x.back(2, 6, 5), 5398);
        due("the one before", x.back(2, 6, 4), BAD);
        int[][] bad = {{-1, 0, 9}, {10, 0, 9}, {0, -1, 9}, {0, 8, 9}, {0, 0, -1}, {0, 0, 100}, {HIGH, LOW, 9}};
        for (int[] b : bad) {
            due("back off bounds", x.back(b[0], b[1], b[2]), BAD);
        }
        PaintBox y = box(2);
        paint(y, 1, 300, 100);
        y.press(0, 0, 1);
        y.lay(0, 0, 3);
        due("one layer", y.back(0, 0, 0), 8351);
        y.press(1, 0, 1);
        y.lay(0, 0, 2);
        due("another on it", y.back(0, 0, 0), 7747);
    }

    private static void look() {
        promise = 20;
        PaintBox x = new PaintBox();
        x.tube(0, 50, 99);
        due("a bare area", x.look(0, 0, 0), 9000);
        x.press(0, 0, 1);
        x.lay(0, 0, 50);
        for (int i = 0; i < 3; i++) {
            due("now", x.look(0, i, i), 3538);
        }
        x.years(10);
        due("ten years on", x.look(0, 0, 2), 4584);
        x.band(0, 0, 0, 100);
        due("one band of three: 9100, 4584, 4584", x.look(0, 0, 2), 6089);
        x.lamp(1, 1, 0);
        x.lamp(1, 2, 0);
        due("under a lamp of one band", x.look(0, 1, 2), 9100);
        x.lamp(1, 0, 0);
        due("in the dark", x.look(0, 1, 2), 0);
        int[][] bad = {{-1, 0, 0}, {10, 0, 0}, {0, -1, 0}, {0, 4, 0}, {0, 0, -1}, {0, 0, 3}, {HIGH, LOW, 0}};
        for (int[] b : bad) {
            due("look off bounds", x.look(b[0], b[1], b[2]), BAD);
        }
    }

    private static void missed() {
        promise = 21;
        PaintBox x = new PaintBox();
        x.tube(0, 50, 99);
        x.press(0, 0, 1);
        x.lay(0, 0, 50);
        x.tone(3538, 3538, 3538);
        due("more than 0", x.missed(0, 0, 0), 1);
        due("308 is missed by 309", x.missed(0, 0, 308), 1);
        due("309 is not", x.missed(0, 0, 309), 2);
        due("44: 8944", x.missed(0, 0, 3 * (8944 - 3538) - 1), 44);
        due("the last change, 45: 9100", x.missed(0, 0, 3 * (8944 - 3538)), 45);
        due("45 still", x.missed(0, 0, 3 * (9100 - 3538) - 1), 45);
        due("never", x.missed(0, 0, 3 * (9100 - 3538)), NOT);
        due("never", x.missed(0, 0, 30000), NOT);
        x.years(3);
        due("from now on", x.missed(0, 0, 0), 3);
        x.years(96);
        due("in the last year", x.missed(0, 0, 16685), 99);
        x.tone(9100, 9100, 9100);
        due("by the tone told last", x.missed(0, 0, 0), NOT);
        int[][] bad = {{-1, 0, 0}, {10, 0, 0}, {0, -1, 0}, {0, 4, 0}, {0, 0, -1}, {0, 0, 30001}, {LOW, HIGH, 0}};
        for (int[] b : bad) {
            due("missed off bounds", x.missed(b[0], b[1], b[2]), BAD);
        }
    }

    private static void tone() {
        promise = 22;
        PaintBox x = new PaintBox();
        due("at first", x.apart(0, 0), 12000);
        due("tone", x.tone(0, 9000, 10000), 1);
        due("it is told", x.apart(0, 0), 10000);
        int[][] bad = {{-1, 0, 0}, {10001, 0, 0}, {0, -1, 0}, {0, 10001, 0}, {0, 0, -1}, {0, 0, 10001}, {LOW, HIGH, 0}};
        for (int[] b : bad) {
            due("tone off bounds", x.tone(b[0], b[1], b[2]), BAD);
        }
        due("nothing changed", x.apart(0, 0), 10000);
    }

    private static void apart() {
        promise = 23;
        PaintBox x = new PaintBox();
        x.tube(0, 50, 99);
        x.press(0, 0, 1);
        x.lay(0, 3, 50);
        x.tone(3537, 3540, 538);
        due("without sign", x.apart(3, 0), 1 + 2 + 3000);
        x.years(10);
        due("now", x.apart(3, 0), 1047 + 1044 + 4046);
        x.lamp(2, 0, 0);
        x.lamp(2, 1, 0);
        x.lamp(2, 2, 0);
        due("a sight in the dark sees 0", x.apart(3, 2), 1047 + 1044 + 538);
        int[][] bad = {{-1, 0}, {10, 0}, {0, -1}, {0, 4}, {HIGH, LOW}};
        for (int[] b : bad) {
            due("apart off bounds", x.apart(b[0], b[1]), BAD);
        }
    }

    private static void match() {
        promise = 24;
        PaintBox x = whiteBlackGrey();
        x.tone(2680, 2680, 2680);
        due("grey is there", x.match(0, 7, 8), 0);
        due("without grey: 1 white, 2 black send 1719", x.match(0, 3, 3), 3 * 961);
        due("one drop", x.match(0, 3, 1), 3 * 2674);
        due("one tube", x.match(0, 1, 8), 3 * 7320);
        int[][] bad = {{-1, 1, 1}, {4, 1, 1}, {0, 0, 1}, {0, 8, 1}, {0, 9, 1}, {0, -1, 1}, {0, 1, 0}, {0, 1, 9}, {0, LOW, 1}};
        for (int[] b : bad) {
            due("match off bounds", x.match(b[0], b[1], b[2]), BAD);
        }
        due("no tubes", new PaintBox().match(0, 1, 1), BAD);
        atMostFour();
        PaintBox full = box(12);
        for (int b = 0; b < 8; b++) {
            full.lamp(0, b, 0);
        }
        full.tone(10000, 10000, 10000);
        due("the farthest, in the dark", full.match(0, 4094, 8), 30000);
        due("the least cost even so", full.price() * 10 + full.matched(1), 168);
        full.tone(5000, 5000, 5000);
        due("all twelve", full.match(3, 4095, 8), 6960);
        due("and no thirteenth", full.match(3, 4096, 8), BAD);
    }

    /** Five tubes, each of which darkens a band of its own: five together would come nearer to black. */
    private static void atMostFour() {
        PaintBox x = new PaintBox();
        for (int t = 0; t < 5; t++) {
            x.tube(1, 0, 0);
            paint(x, t, 0, 100);
            x.band(t, t, 500, 100);
        }
        for (int b = 0; b < 8; b++) {
            x.eye(0, b, b < 5 ? 1 : 0);
            x.eye(1, b, 0);
            x.eye(2, b, 0);
        }
        x.tone(0, 0, 0);
        due("at most four, whatever they hold", x.match(0, 31, 5), 3951);
        int[] first = {2, 1, 1, 1, 0};
        for (int t = 0; t < 5; t++) {
            due("more of the least tube", x.matched(t), first[t]);
        }
    }

    private static void matched() {
        promise = 25;
        PaintBox x = whiteBlackGrey();
        due("before any", x.matched(0), BAD);
        due("refused", x.match(0, 8, 1), BAD);
        due("still before any", x.matched(0), BAD);
        x.tone(3821, 3821, 3821);
        due("2 white, 1 black", x.match(0, 7, 3), 0);
        due("white", x.matched(0), 2);
        due("black", x.matched(1), 1);
        due("grey", x.matched(2), 0);
        for (int off : new int[] {-1, 3, 12, LOW, HIGH}) {
            due("no such tube", x.matched(off), BAD);
        }
        due("refused", x.match(0, 7, 9), BAD);
        due("the latest that was not", x.matched(0), 2);
        x.tube(0, 0, 0);
        due("a tube that came later", x.matched(3), 0);
        x.tone(2680, 2680, 2680);
        due("another", x.match(0, 7, 2), 0);
        due("white", x.matched(0), 0);
        due("grey", x.matched(2), 2);
        PaintBox twins = new PaintBox();
        twins.tube(5, 0, 0);
        twins.tube(2, 0, 0);
        twins.tube(2, 0, 0);
        twins.match(0, 7, 6);
        due("the least cost", twins.matched(0), 0);
        due("then the least tube", twins.matched(1), 6);
        due("alone", twins.matched(2), 0);
    }

    private static void price() {
        promise = 26;
        PaintBox x = whiteBlackGrey();
        due("before any", x.price(), BAD);
        x.match(0, 8, 1);
        due("a refused one", x.price(), BAD);
        x.tone(3821, 3821, 3821);
        x.match(0, 7, 3);
        due("2 at 1, 1 at 2", x.price(), 4);
        x.match(0, 7, 0);
        due("refused", x.price(), 4);
        PaintBox dear = new PaintBox();
        dear.tube(999, 0, 0);
        dear.match(0, 1, 8);
        due("the dearest", dear.price(), 7992);
        PaintBox free = new PaintBox();
        free.tube(0, 0, 0);
        free.match(0, 1, 8);
        due("for nothing", free.price(), 0);
    }

    private static void glaze() {
        promise = 27;
        PaintBox x = whiteBlackGrey();
        x.tone(4823, 4823, 4823);
        due("black, then white", x.glaze(0, 3, 5000), 0);
        x.tone(4814, 4814, 4814);
        due("white, then black", x.glaze(0, 3, 5000), 0);
        due("no white comes nearer than none", x.glaze(0, 1, 5000), 3 * 186);
        x.tone(7000, 7000, 7000);
        due("none at all", x.glaze(0, 7, 7000), 0);
        x.tone(0, 0, 0);
        due("black over 1", x.glaze(0, 7, 1), 0);
        int[][] bad = {{-1, 1, 0}, {4, 1, 0}, {0, 0, 0}, {0, 8, 0}, {0, -1, 0}, {0, 1, -1}, {0, 1, 10001}, {0, HIGH, LOW}};
        for (int[] b : bad) {
            due("glaze off bounds", x.glaze(b[0], b[1], b[2]), BAD);
        }
        due("no tubes", new PaintBox().glaze(0, 1, 0), BAD);
        PaintBox full = box(12);
        full.tone(9751, 9751, 9751);
        due("all twelve", full.glaze(3, 4095, 10000), 0);
        due("and no thirteenth", full.glaze(3, 8191, 10000), BAD);
    }

    private static void glazed() {
        promise = 28;
        PaintBox x = whiteBlackGrey();
        due("before any", x.glazed(0), BAD);
        x.glaze(0, 0, 0);
        due("a refused one", x.glazed(0), BAD);
        x.tone(4823, 4823, 4823);
        x.glaze(0, 3, 5000);
        due("black from the ground up", x.glazed(0), 11);
        due("then white", x.glazed(1), 1);
        due("no third", x.glazed(2), BAD);
        x.glaze(0, 7, 10001);
        due("refused", x.glazed(0), 11);
        x.tone(4187, 4187, 4187);
        x.glaze(0, 3, 5000);
        due("two of white", x.glazed(0), 2);
        due("then four of black", x.glazed(1), 14);
        for (int off : new int[] {-1, 3, LOW, HIGH}) {
            due("none such", x.glazed(off), BAD);
        }
        x.tone(7000, 7000, 7000);
        x.glaze(0, 7, 7000);
        due("none at all", x.glazed(0), BAD);
        x.tube(0, 0, 0);
        paint(x, 3, 999, 1);
        x.tone(0, 0, 0);
        x.glaze(0, 15, 1);
        due("the fewest layers, the lesser tube, the lesser thickness", x.glazed(0), 11);
        due("and no more", x.glazed(1), BAD);
        x.glaze(0, 12, 1);
        due("of the set alone", x.glazed(0), 31);
        PaintBox full = box(12);
        paint(full, 11, 999, 1);
        full.tone(0, 0, 0);
        full.glaze(0, 4095, 9000);
        due("the twelfth", full.glazed(0) == 114 || full.glazed(1) == 114 || full.glazed(2) == 114 ? 1 : 0, 1);
    }

    private static void keep() {
        promise = 29;
        PaintBox x = whiteBlackGrey();
        x.tone(10000, 10000, 10000);
        for (int i = 1; i <= 6; i++) {
            due("keep", x.keep(), i);
        }
        due("a seventh", x.keep(), FULL);
        due("six", x.count(2), 6);
        due("white does for all", x.fewest(0, 1, 0), 1);
        x.clear();
        due("the first again", x.keep(), 1);
        x.tone(6, 6, 6);
        due("the kept one stays as it was", x.fewest(0, 1, 0), 1);
    }

    private static void clear() {
        promise = 30;
        PaintBox x = whiteBlackGrey();
        due("none", x.clear(), 0);
        x.keep();
        x.keep();
        due("two", x.clear(), 2);
        due("none", x.clear(), 0);
        due("none", x.count(2), 0);
        due("none", x.fewest(0, 1, 30000), NOT);
        due("the tone stays", x.apart(0, 0), 12000);
    }

    private static void fewest() {
        promise = 31;
        PaintBox x = whiteBlackGrey();
        due("no tones", x.fewest(0, 1, 30000), NOT);
        x.tone(2680, 2680, 2680);
        x.keep();
        due("grey alone", x.fewest(0, 1, 0), 4);
        due("the first of several", x.fewest(0, 1, 30000), 1);
        due("1 white, 2 black are two tubes", x.fewest(0, 3, 2883), 4);
        x.tone(10000, 10000, 10000);
        x.keep();
        due("white and grey", x.fewest(0, 1, 0), 5);
        due("white and black", x.fewest(0, 3, 2883), 3);
        due("2882 is too near", x.fewest(0, 3, 2882), 5);
        x.tone(6, 6, 6);
        x.keep();
        due("all three", x.fewest(0, 6, 0), 7);
        x.tone(0, 0, 0);
        x.keep();
        due("nothing is so black", x.fewest(0, 6, 17), NOT);
        due("but nearly, and 3 white, 3 black send 2682", x.fewest(0, 6, 18), 3);
        int[][] bad = {{-1, 1, 0}, {4, 1, 0}, {0, 0, 0}, {0, 7, 0}, {0, 1, -1}, {0, 1, 30001}, {LOW, HIGH, 0}};
        for (int[] b : bad) {
            due("fewest off bounds", x.fewest(b[0], b[1], b[2]), BAD);
        }
        PaintBox none = new PaintBox();
        none.keep();
        due("no tubes", none.fewest(0, 1, 30000), NOT);
        due("BAD before NOT", new PaintBox().fewest(0, 7, 0), BAD);
        PaintBox full = box(12);
        paint(full, 11, 0, 1);
        full.tone(10000, 10000, 10000);
        full.keep();
        due("the twelfth", full.fewest(2, 6, 0), 2048);
        full.tone(2680, 2680, 2680);
        full.keep();
        due("and the first", full.fewest(2, 6, 0), 2049);
        allOfThem();
    }

    /** Six tones, each just that of two tubes mixed: no tube can be spared. */
    private static void allOfThem() {
        PaintBox x = box(12);
        for (int t = 0; t < 12; t++) {
            for (int b = 0; b < 8; b++) {
                x.band(t, b, (t * 83 + b * 131 + t * b * 37) % 1000, 1 + (t * 57 + b * 211 + t * t * 91) % 999);
            }
        }
        for (int i = 0; i < 6; i++) {
            x.press(2 * i, i, 1);
            x.press(2 * i + 1, i, 1);
            x.tone(x.seen(i, 0, 0), x.seen(i, 0, 1), x.seen(i, 0, 2));
            x.keep();
        }
        due("all of them", x.fewest(0, 2, 0), 4095);
        due("not with three drops", x.fewest(0, 3, 0), NOT);
    }

    private static void count() {
        promise = 32;
        PaintBox x = box(3);
        x.years(7);
        x.keep();
        x.press(0, 0, 10);
        x.press(1, 1, 20);
        x.press(2, 2, 30);
        x.press(2, 3, 40);
        x.press(1, 4, 5);
        x.lay(0, 0, 1);
        x.lay(1, 0, 1);
        x.lay(4, 9, 1);
        x.waste(2);
        int[] due = {3, 7, 1, 40, 35, 30, 3 * 9999 - 105, 3};
        for (int what = 0; what < 8; what++) {
            due("count " + what, x.count(what), due[what]);
        }
        for (int off : new int[] {-1, 8, LOW, HIGH}) {
            due("count off bounds", x.count(off), BAD);
        }
    }
}
