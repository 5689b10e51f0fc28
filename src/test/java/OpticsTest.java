import java.util.Random;

/**
 * What one TUBE does to light, for every K and S there is: THICK by what makes a ROOT one, a thin layer by the
 * document's words, FADED year by year, and HIDING by trying one THICKNESS after the other on all BANDS at once.
 */
public final class OpticsTest {
    private static final int BANDS = 8;
    private static final int MOST = 999;
    private static int wrong = 0;
    /** A box with one drop of TUBE 0 in POT 0, and how many calls it has left. */
    private static PaintBox box;
    private static int left = 0;

    private OpticsTest() {
    }

    public static void main(String[] args) {
        everyRow();
        everyFading();
        thicknesses(new Random(9));
        hiding(new Random(16));
        System.out.println(wrong == 0 ? "OpticsTest: all answers are as due" : "OpticsTest: " + wrong + " wrong");
        if (wrong != 0) {
            System.exit(1);
        }
    }

    private static void check(boolean holds, String what) {
        if (!holds) {
            wrong++;
            if (wrong <= 20) {
                System.out.println("OpticsTest: " + what);
            }
        }
    }

    private static void makeReady(int fading, int calls) {
        if (left < calls + 1 || box.ofTube(0, 1) != fading) {
            box = new PaintBox();
            box.tube(0, fading, 9999);
            box.press(0, 0, 1);
            left = Face.MOST_CALLS - 2;
        }
        left -= calls + 1;
    }

    private static void everyRow() {
        for (int k = 0; k <= MOST; k++) {
            for (int s = 1; s <= MOST; s++) {
                makeReady(0, 5);
                int band = s % BANDS;
                String what = "K " + k + " S " + s;
                check(box.band(0, band, k, s) == 1, "band, " + what);
                check(isThick(box.thick(0, band), k, s), "thick, " + what);
                for (int g : new int[] {0, (k * 7 + s * 13) % 10000, 10000}) {
                    check(box.over(0, band, 1, g) == thin(k, s, g), "over " + g + ", " + what);
                }
            }
        }
    }

    /** The ROOT is the one whole number whose square is not above, and that of the next is. */
    private static boolean isThick(int sent, long k, long s) {
        long q = 10000 * k / s;
        long square = q * q + 20000 * q;
        long root = 10000 + q - sent;
        return root >= 0 && root * root <= square && (root + 1) * (root + 1) > square;
    }

    private static int thin(long k, long s, long g) {
        long takes = 2000 * k / (8 * (k + s));
        long sends = 2000 * s / (8 * (k + s));
        long through = 10000 - takes - sends;
        return (int) (sends + through * through * g / (100000000 - sends * g));
    }

    private static void everyFading() {
        for (int f = 0; f <= MOST; f++) {
            for (int k : new int[] {MOST, f, 1000 - Math.max(1, f)}) {
                makeReady(f, 201);
                box.band(0, f % BANDS, k, 1 + f % MOST);
                int faded = k;
                for (int y = 0; y <= 99; y++) {
                    check(box.row(0, f % BANDS, y, 0) == faded, "row of K " + k + ", fading " + f + ", years " + y);
                    check(box.row(0, f % BANDS, y, 1) == 1 + f % MOST, "S of fading " + f + ", years " + y);
                    faded = faded * (1000 - f) / 1000;
                }
            }
        }
    }

    private static void thicknesses(Random random) {
        for (int i = 0; i < 20000; i++) {
            int k = random.nextInt(1000) / (1 + random.nextInt(100));
            int s = 1 + random.nextInt(MOST) / (1 + random.nextInt(100));
            int g = random.nextInt(10001);
            int n = 1 + random.nextInt(200);
            makeReady(0, 3);
            box.band(0, 3, k, s);
            int sent = g;
            for (int j = 0; j < n; j++) {
                sent = thin(k, s, sent);
            }
            check(box.over(0, 3, n, g) == sent, "over " + g + ", K " + k + " S " + s + " n " + n);
        }
    }

    private static void hiding(Random random) {
        for (int i = 0; i < 4000; i++) {
            int[] k = new int[BANDS];
            int[] s = new int[BANDS];
            int strong = 1 + random.nextInt(1000);
            makeReady(0, BANDS + 12);
            for (int b = 0; b < BANDS; b++) {
                k[b] = random.nextInt(strong);
                s[b] = 1 + random.nextInt(i % 2 == 0 ? 999 : 60);
                box.band(0, b, k[b], s[b]);
            }
            int[] differ = differences(k, s);
            for (int j = 0; j < 12; j++) {
                int near = differ[1 + random.nextInt(200)];
                int d = j == 0 ? 0 : j == 1 ? 10000 : Math.max(0, near - random.nextInt(2));
                int due = Face.NOT;
                for (int n = 200; n >= 1; n--) {
                    due = differ[n] <= d ? n : due;
                }
                check(box.hiding(0, d) == due, "hiding by " + d + " in run " + i + ", due is " + due);
            }
        }
    }

    /** By THICKNESS the most that a BAND over 0 and over 10000 differs. */
    private static int[] differences(int[] k, int[] s) {
        int[] most = new int[201];
        for (int b = 0; b < BANDS; b++) {
            int dark = 0;
            int bright = 10000;
            for (int n = 1; n <= 200; n++) {
                dark = thin(k[b], s[b], dark);
                bright = thin(k[b], s[b], bright);
                most[n] = Math.max(most[n], Math.abs(bright - dark));
            }
        }
        return most;
    }
}
