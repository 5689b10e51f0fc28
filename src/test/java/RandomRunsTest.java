import java.util.Arrays;
import java.util.Random;

/**
 * Holds PaintBox against PlainBox in long runs of calls drawn by seed: ordinary inputs for the most part,
 * and one in some twenty off its bounds.
 */
public final class RandomRunsTest {
    private static final String[] NAMES = {
        "tube", "band", "ofTube", "row", "lamp", "eye", "years", "press", "pour", "waste", "drops", "thick", "seen",
        "over", "hiding", "ground", "lay", "back", "look", "missed", "tone", "apart", "match", "matched", "price",
        "glaze", "glazed", "keep", "clear", "fewest", "count"};
    private static final int[] OFF = {-1, -2, Integer.MIN_VALUE, Integer.MAX_VALUE, 1 << 30, 10001, 30001};
    private static int wrong = 0;

    private final Random random;
    private final int mostTubes;
    private final boolean tame;

    private RandomRunsTest(long seed) {
        random = new Random(seed);
        mostTubes = 1 + random.nextInt(random.nextInt(4) == 0 ? 12 : 6);
        tame = random.nextInt(3) == 0;
    }

    public static void main(String[] args) {
        int runs = args.length > 0 ? Integer.parseInt(args[0]) : 150;
        for (int seed = 1; seed <= runs && wrong < 20; seed++) {
            new RandomRunsTest(seed).run(seed);
        }
        System.out.println(wrong == 0 ? "RandomRunsTest: all answers are as due" : "RandomRunsTest: " + wrong + " wrong");
        if (wrong != 0) {
            System.exit(1);
        }
    }

    private void run(int seed) {
        PaintBox box = new PaintBox();
        PlainBox plain = new PlainBox();
        int tubes = 0;
        for (int i = 0; i < 512; i++) {
            int call = draw(tubes, i);
            int[] a = arguments(call, tubes);
            int want = Face.ask(plain, NAMES[call], a);
            int got = Face.ask(box, NAMES[call], a);
            tubes = plain.count(0);
            if (got != want || !alike(box, plain, NAMES[call], tubes)) {
                wrong++;
                System.out.println("seed " + seed + ", call " + i + ": " + NAMES[call] + Arrays.toString(a)
                        + " answered " + got + ", due is " + want + (got == want ? ", but it left another state" : ""));
                return;
            }
        }
    }

    /** What a call found or left is asked for whole, so that no wrong state waits for a lucky draw. */
    private static boolean alike(PaintBox box, PlainBox plain, String call, int tubes) {
        boolean alike = true;
        for (int i = 0; i < 8; i++) {
            alike &= box.count(i) == plain.count(i);
        }
        for (int t = 0; t < tubes && call.equals("match"); t++) {
            alike &= box.matched(t) == plain.matched(t);
        }
        for (int i = 0; i < 4 && call.equals("glaze"); i++) {
            alike &= box.glazed(i) == plain.glazed(i);
        }
        for (int t = 0; t < tubes && (call.equals("lay") || call.equals("waste")); t++) {
            alike &= box.ofTube(t, 3) == plain.ofTube(t, 3) && box.ofTube(t, 4) == plain.ofTube(t, 4)
                    && box.ofTube(t, 5) == plain.ofTube(t, 5);
        }
        return alike && box.price() == plain.price();
    }

    private int draw(int tubes, int i) {
        if (i < 30 && tubes < mostTubes && random.nextInt(3) == 0) {
            return 0;
        }
        int call = random.nextInt(NAMES.length);
        boolean dear = call == 22 || call == 25 || call == 29 || call == 19;
        if (dear && random.nextInt(3) == 0) {
            return 7;
        }
        boolean rare = call == 0 && tubes >= mostTubes && (mostTubes < 12 || random.nextInt(4) != 0) || call == 6 && random.nextInt(5) != 0;
        return rare ? 1 : call;
    }

    private int upTo(int most) {
        if (random.nextInt(60) == 0) {
            return OFF[random.nextInt(OFF.length)];
        }
        if (random.nextInt(40) == 0) {
            return most + 1;
        }
        return random.nextInt(8) == 0 ? (random.nextBoolean() ? 0 : most) : random.nextInt(most + 1);
    }

    private int from1(int most) {
        return random.nextInt(30) == 0 ? 0 : 1 + upTo(most - 1);
    }

    private int aTube(int tubes) {
        return upTo(Math.max(0, tubes - 1));
    }

    private int paint() {
        return tame ? 100 * random.nextInt(5) : upTo(999);
    }

    /** Few tones, and such as tame paints reach: so that mixtures and glazes tie. */
    private int aTone() {
        return new int[] {0, 1716, 2680, 10000}[random.nextInt(4)];
    }

    private int light() {
        return tame ? random.nextInt(3) : upTo(99);
    }

    private int aSet(int tubes) {
        return random.nextInt(3) == 0 ? (1 << tubes) - 1 : from1((1 << Math.max(1, tubes)) - 1);
    }

    private int[] arguments(int call, int tubes) {
        int p = random.nextInt(3) == 0 ? upTo(9) : random.nextInt(3);
        int area = random.nextInt(3) == 0 ? upTo(9) : random.nextInt(2);
        switch (NAMES[call]) {
            case "tube": return row(tame ? random.nextInt(2) : upTo(999), random.nextInt(3) == 0 ? 0 : upTo(999), upTo(9999));
            case "band": return row(aTube(tubes), upTo(7), paint(), tame ? 100 : from1(999));
            case "ofTube": return row(aTube(tubes), upTo(5));
            case "row": return row(aTube(tubes), upTo(7), upTo(99), upTo(1));
            case "lamp": return row(upTo(3), upTo(7), light());
            case "eye": return row(upTo(2), upTo(7), light());
            case "years": return row(from1(random.nextInt(9) == 0 ? 99 : 6));
            case "press": return row(aTube(tubes), p, from1(99));
            case "pour": return row(p, upTo(9));
            case "waste": return row(p);
            case "drops": return row(p, random.nextInt(3) == 0 ? -1 : aTube(tubes));
            case "thick": return row(p, upTo(7));
            case "seen": return row(p, upTo(3), upTo(2));
            case "over": return row(p, upTo(7), from1(200), upTo(10000));
            case "hiding": return row(p, upTo(random.nextBoolean() ? 10000 : 300));
            case "ground": return row(area, upTo(10000));
            case "lay": return row(p, area, from1(random.nextBoolean() ? 200 : 9));
            case "back": return row(area, upTo(7), upTo(99));
            case "look": return row(area, upTo(3), upTo(2));
            case "missed": return row(area, upTo(3), random.nextBoolean() ? upTo(30000) : random.nextInt(9000));
            case "tone": return tame ? row(aTone(), aTone(), aTone()) : row(upTo(10000), upTo(10000), upTo(10000));
            case "apart": return row(area, upTo(3));
            case "match": return row(upTo(3), aSet(tubes), from1(tubes > 6 ? 4 : 8));
            case "matched": return row(aTube(tubes));
            case "glaze": return row(upTo(3), tubes > 6 ? from1(63) : aSet(tubes), upTo(10000));
            case "glazed": return row(upTo(2));
            case "fewest": return row(upTo(3), from1(tubes > 6 ? 4 : 6), random.nextInt(4) == 0 ? upTo(30000) : random.nextInt(15000));
            case "count": return row(upTo(7));
            default: return row();
        }
    }

    private static int[] row(int... told) {
        return told;
    }
}
