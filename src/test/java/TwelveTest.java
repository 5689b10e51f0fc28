import java.util.Random;

/**
 * MATCH, FEWEST and GLAZES as large as they may be, with twelve TUBES and the most DROPS, held against PlainBox:
 * RandomRunsTest keeps to smaller ones, since PlainBox is slow. An argument tells how many boxes.
 */
public final class TwelveTest {
    private static final int ALL = 4095;
    private static final Sheet SHEET = new Sheet("TwelveTest");

    private final Random random;
    private final PaintBox box = new PaintBox();
    private final PlainBox plain = new PlainBox();
    private final String name;
    /** Few paints and tones: so that much ties. */
    private final boolean tame;

    private TwelveTest(int seed) {
        random = new Random(seed);
        name = "seed " + seed;
        tame = seed % 3 == 0;
    }

    public static void main(String[] args) {
        int boxes = args.length > 0 ? Integer.parseInt(args[0]) : 6;
        for (int seed = 1; seed <= boxes; seed++) {
            new TwelveTest(seed).run();
        }
        SHEET.end();
    }

    private int ask(String call, int... told) {
        int got = Face.ask(box, call, told);
        int due = Face.ask(plain, call, told);
        SHEET.check(got == due, name + ": " + call + java.util.Arrays.toString(told) + " answered " + got + ", due is " + due);
        return got;
    }

    private void run() {
        for (int t = 0; t < 12; t++) {
            ask("tube", tame ? 1 + random.nextInt(2) : random.nextInt(1000), random.nextInt(1000), 60);
            for (int b = 0; b < 8; b++) {
                int k = tame ? 100 * random.nextInt(3) : random.nextInt(1 + random.nextInt(1000));
                ask("band", t, b, k, tame ? 100 : 1 + random.nextInt(1 + random.nextInt(999)));
            }
        }
        for (int i = 0; i < 12; i++) {
            ask("lamp", 1, random.nextInt(8), tame ? random.nextInt(2) : random.nextInt(100));
            ask("eye", random.nextInt(3), random.nextInt(8), tame ? random.nextInt(2) : random.nextInt(100));
        }
        matches();
        glazes();
        fewest();
    }

    private void aTone() {
        ask("tone", share(), share(), share());
    }

    private int share() {
        return tame ? new int[] {1716, 2680, 10000}[random.nextInt(3)] : random.nextInt(10001);
    }

    private void matches() {
        for (int lamp = 0; lamp < 2; lamp++) {
            aTone();
            ask("match", lamp, lamp == 0 ? ALL : ALL & ~(1 << random.nextInt(12)), 8 - lamp);
            for (int t = 0; t < 12; t++) {
                ask("matched", t);
            }
            ask("price");
        }
    }

    private void glazes() {
        for (int lamp = 0; lamp < 2; lamp++) {
            if (tame) {
                aTone();
            } else {
                ask("tone", 5000 + random.nextInt(4000), 5000 + random.nextInt(4000), 5000 + random.nextInt(4000));
            }
            ask("glaze", lamp, ALL, 6000 + random.nextInt(4001));
            for (int i = 0; i < 4; i++) {
                ask("glazed", i);
            }
        }
    }

    /** Tones that mixtures have, so that there are sets at small distances, too. */
    private void fewest() {
        ask("clear");
        for (int i = 0; i < 6; i++) {
            for (int drop = 0; drop < 6; drop++) {
                ask("press", drop < 3 ? i : random.nextInt(12), 0, 1);
            }
            ask("tone", ask("seen", 0, 0, 0), ask("seen", 0, 0, 1), ask("seen", 0, 0, 2));
            ask("waste", 0);
            ask("keep");
        }
        for (int d : new int[] {0, 50, 200, 800, 3000}) {
            ask("fewest", 0, 6, d);
        }
        ask("fewest", 1, 5, 6000);
    }
}
