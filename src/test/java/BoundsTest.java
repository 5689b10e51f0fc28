import java.util.ArrayList;
import java.util.Arrays;
import java.util.List;
import java.util.TreeSet;

/**
 * The bounds of every number of every call: the last that is taken and the first that is refused on either side,
 * the smallest and the largest int. Tried in a new box, in one with something of everything and in a crammed one,
 * so that BAD is also due where NOT or FULL would be. What is refused, and what only asks, must leave no trace.
 */
public final class BoundsTest {
    private static final List<String> ASKING = List.of("ofTube", "row", "drops", "thick", "seen", "over", "hiding",
            "back", "look", "missed", "apart", "matched", "price", "glazed", "fewest", "count");
    private static final int[] POT = {0, 9};
    private static final int[] AREA = {0, 9};
    private static final int[] LAMP = {0, 3};
    private static final int[] SIGHT = {0, 2};
    private static final int[] BAND = {0, 7};
    private static final int[] SHARE = {0, 10000};
    private static final int[] FAR = {0, 30000};

    private static final Sheet SHEET = new Sheet("BoundsTest");

    private final Scene scene;
    private final String[] shown = new String[Shown.PARTS];

    private BoundsTest(Scene scene) {
        this.scene = scene;
        for (int part = 0; part < Shown.PARTS; part++) {
            shown[part] = Shown.part(scene.box(), part);
        }
    }

    public static void main(String[] args) {
        for (Scene scene : Scene.ALL) {
            new BoundsTest(scene).run();
        }
        SHEET.end();
    }

    private void run() {
        PaintBox x = scene.box();
        SHEET.check(x.count(0) == scene.tubes && x.count(1) == scene.year, scene.name + " is not as it is told");
        int[] tube = {0, scene.tubes - 1};
        int[] set = {1, (1 << scene.tubes) - 1};
        tubes(tube);
        pots(tube);
        picture();
        tones(tube, set);
    }

    private void tubes(int[] tube) {
        hold("tube 3 20 500", span(0, 999), span(0, 999), span(0, 9999));
        hold("band 0 0 100 100", tube, BAND, span(0, 999), span(1, 999));
        hold("ofTube 0 0", tube, span(0, 5));
        hold("row 0 0 0 0", tube, BAND, span(0, 99), span(0, 1));
        hold("lamp 0 0 10", LAMP, BAND, span(0, 99));
        hold("eye 0 0 1", SIGHT, BAND, span(0, 99));
        hold("years 1", span(1, 99 - scene.year));
    }

    private void pots(int[] tube) {
        for (String base : List.of("press 0 0 1", "press 1 0 1", "press 1 5 1", "press 0 5 1")) {
            hold(base, tube, POT, span(1, 99));
        }
        for (String base : List.of("pour 0 1", "pour 5 0", "pour 1 5", "pour 9 0", "pour 4 5")) {
            hold(base, POT, POT);
        }
        hold("waste 1", POT);
        hold("drops 0 -1", POT, span(-1, scene.tubes - 1));
        for (String pot : List.of("1", "5")) {
            hold("thick " + pot + " 0", POT, BAND);
            hold("seen " + pot + " 0 0", POT, LAMP, SIGHT);
            hold("over " + pot + " 0 1 0", POT, BAND, span(1, 200), SHARE);
            hold("hiding " + pot + " 0", POT, SHARE);
        }
    }

    private void picture() {
        hold("ground 4 100", AREA, SHARE);
        hold("ground 0 100", AREA, SHARE);
        for (String base : List.of("lay 1 4 1", "lay 1 0 1", "lay 5 0 1", "lay 5 4 1")) {
            hold(base, POT, AREA, span(1, 200));
        }
        hold("back 0 0 99", AREA, BAND, span(scene.year, 99));
        hold("look 0 0 0", AREA, LAMP, SIGHT);
        hold("missed 0 0 0", AREA, LAMP, FAR);
        hold("missed 0 0 30000", AREA, LAMP, FAR);
    }

    private void tones(int[] tube, int[] set) {
        hold("tone 0 0 0", SHARE, SHARE, SHARE);
        hold("apart 0 0", AREA, LAMP);
        hold("match 0 1 1", LAMP, set, span(1, 8));
        hold("matched 0", scene.searched ? tube : span(0, -1));
        hold("price");
        hold("glaze 0 1 0", LAMP, set, SHARE);
        hold("glazed 0", span(0, scene.glazes - 1));
        hold("keep");
        hold("clear");
        hold("fewest 0 1 30000", LAMP, span(1, 6), FAR);
        hold("fewest 0 1 0", LAMP, span(1, 6), FAR);
        hold("count 0", span(0, 7));
    }

    private static int[] span(int least, int most) {
        return new int[] {least, most};
    }

    /** Tries the base call with each of its numbers in turn at, within and beyond its bounds. */
    private void hold(String base, int[]... bounds) {
        String call = base.split(" ")[0];
        List<int[]> traceless = new ArrayList<>();
        PaintBox asked = scene.box();
        for (int[] told : probes(base, bounds)) {
            boolean bad = isBad(call, told, bounds);
            // A fresh box where the call may change it, as the next one tried is due an answer of the scene's.
            PaintBox x = bad || ASKING.contains(call) ? asked : scene.box();
            int got = Face.ask(x, call, told);
            int want = Face.ask(scene.plain(), call, told);
            String text = scene.name + ": " + call + Arrays.toString(told) + " answered " + got;
            SHEET.check(got == Face.BAD == bad, text + (bad ? ", due is BAD" : ", but nothing is BAD"));
            SHEET.check(got == want, text + ", due is " + want);
            if (got < 0 || ASKING.contains(call)) {
                traceless.add(told);
            } else {
                changeAlike(call, told);
            }
        }
        leaveNoTrace(call, traceless);
    }

    private static List<int[]> probes(String base, int[][] bounds) {
        String[] words = base.split(" ");
        int[] told = new int[bounds.length];
        for (int i = 0; i < told.length; i++) {
            told[i] = Integer.parseInt(words[i + 1]);
        }
        List<int[]> all = new ArrayList<>(List.of(told));
        for (int i = 0; i < told.length; i++) {
            for (int v : tried(bounds[i])) {
                int[] probe = told.clone();
                probe[i] = v;
                all.add(probe);
            }
        }
        return all;
    }

    private boolean isBad(String call, int[] told, int[][] bounds) {
        boolean bad = call.equals("pour") && told[0] == told[1] || call.equals("price") && !scene.searched;
        for (int i = 0; i < told.length; i++) {
            bad |= told[i] < bounds[i][0] || told[i] > bounds[i][1];
        }
        return bad;
    }

    /** Small spans whole; and numbers that a narrower type, a shift or a change of sign would take for good ones. */
    private static TreeSet<Integer> tried(int[] span) {
        int least = span[0];
        int most = span[1];
        TreeSet<Integer> all = new TreeSet<>(List.of(least - 1, least, most, most + 1, Face.LOW, Face.HIGH, Face.LOW + least,
                Face.LOW + most, Face.LOW + 1, Face.HIGH - 1, most + 256, most + 65536, most + 4096, -most - 1, -most, 12, -2));
        if (most - least < 13) {
            for (int v = least; v <= most; v++) {
                all.add(v);
            }
        } else {
            all.addAll(List.of(least + 1, least + (most - least) / 2, most - 1));
        }
        return all;
    }

    private void changeAlike(String call, int[] told) {
        for (int part = 0; part < Shown.PARTS; part++) {
            PaintBox x = scene.box();
            PlainBox plain = scene.plain();
            Face.ask(x, call, told);
            Face.ask(plain, call, told);
            SHEET.check(Shown.part(x, part).equals(Shown.part(plain, part)), scene.name + ": " + call + Arrays.toString(told)
                    + " did not change the box as is due, in part " + part);
        }
    }

    private void leaveNoTrace(String call, List<int[]> calls) {
        for (int part = 0; part < Shown.PARTS; part++) {
            PaintBox x = scene.box();
            for (int[] told : calls) {
                Face.ask(x, call, told);
            }
            SHEET.check(Shown.part(x, part).equals(shown[part]), scene.name + ": " + call
                    + " changed what the box shows, in part " + part);
        }
    }
}
