import java.math.BigInteger;
import java.util.ArrayList;
import java.util.Arrays;
import java.util.List;

/**
 * The document once more, word by word and without any care for speed: what PaintBox is held against in
 * RandomRunsTest. It shares no code with PaintBox and goes other ways where there are any.
 */
final class PlainBox {
    static final int BAD = -1;
    static final int NOT = -2;
    static final int FULL = -3;

    private static final class PlainTube {
        int cost;
        int fading;
        int held;
        int[] k = new int[8];
        int[] s = new int[8];
    }

    private static final class PlainLayer {
        int[] drops;
        int thickness;
        int year;
    }

    private final List<PlainTube> tubes = new ArrayList<>();
    private final int[][] pots = new int[10][12];
    private final List<List<PlainLayer>> areas = new ArrayList<>();
    private final int[] grounds = new int[10];
    private final int[] laid = new int[12];
    private final int[] lost = new int[12];
    private final int[][] lamps = new int[4][8];
    private final int[][] sights = {{0, 0, 0, 0, 0, 1, 1, 1}, {0, 0, 0, 1, 1, 1, 0, 0}, {1, 1, 1, 0, 0, 0, 0, 0}};
    private int year = 0;
    private int[] tone = {5000, 5000, 5000};
    private final List<int[]> tones = new ArrayList<>();
    private int[] matched = null;
    private List<int[]> glazed = null;

    PlainBox() {
        for (int i = 0; i < 10; i++) {
            areas.add(new ArrayList<>());
            grounds[i] = 9000;
        }
        for (int[] lamp : lamps) {
            Arrays.fill(lamp, 10);
        }
    }

    private static boolean out(int n, int least, int most) {
        return n < least || n > most;
    }

    private boolean noTube(int tube) {
        return out(tube, 0, tubes.size() - 1);
    }

    // ---- the terms

    private static int fade(int k, int f, int years) {
        for (int i = 0; i < years; i++) {
            k = k * (1000 - f) / 1000;
        }
        return k;
    }

    private long drink(int[] drops, int band, int years) {
        long sum = 0;
        for (int t = 0; t < tubes.size(); t++) {
            sum += (long) drops[t] * fade(tubes.get(t).k[band], tubes.get(t).fading, years);
        }
        return sum;
    }

    private long scatter(int[] drops, int band) {
        long sum = 0;
        for (int t = 0; t < tubes.size(); t++) {
            sum += (long) drops[t] * tubes.get(t).s[band];
        }
        return sum;
    }

    private int thickOf(int[] drops, int band) {
        long q = 10000 * drink(drops, band, 0) / scatter(drops, band);
        BigInteger big = BigInteger.valueOf(q);
        BigInteger square = big.multiply(big).add(big.multiply(BigInteger.valueOf(20000)));
        return (int) (10000 + q - square.sqrt().longValueExact());
    }

    private int layerOver(int[] drops, int band, int years, int n, int g) {
        long k = drink(drops, band, years);
        long sc = scatter(drops, band);
        long a = 2000 * k / (8 * (k + sc));
        long s = 2000 * sc / (8 * (k + sc));
        long t = 10000 - a - s;
        long sent = g;
        for (int i = 0; i < n; i++) {
            sent = s + t * t * sent / (100000000 - s * sent);
        }
        return (int) sent;
    }

    private int seenOf(int[] sent, int lamp, int sight) {
        long sum = 0;
        long weights = 0;
        for (int b = 0; b < 8; b++) {
            sum += (long) lamps[lamp][b] * sights[sight][b] * sent[b];
            weights += (long) lamps[lamp][b] * sights[sight][b];
        }
        return weights == 0 ? 0 : (int) (sum / weights);
    }

    private int apartOf(int[] sent, int lamp, int[] from) {
        int sum = 0;
        for (int i = 0; i < 3; i++) {
            sum += Math.abs(seenOf(sent, lamp, i) - from[i]);
        }
        return sum;
    }

    private int[] thickRow(int[] drops) {
        int[] sent = new int[8];
        for (int b = 0; b < 8; b++) {
            sent[b] = thickOf(drops, b);
        }
        return sent;
    }

    private int areaSends(int area, int band, int z) {
        int g = grounds[area];
        for (PlainLayer layer : areas.get(area)) {
            g = layerOver(layer.drops, band, z - layer.year, layer.thickness, g);
        }
        return g;
    }

    private int[] areaRow(int area, int z) {
        int[] sent = new int[8];
        for (int b = 0; b < 8; b++) {
            sent[b] = areaSends(area, b, z);
        }
        return sent;
    }

    /** All mixtures of just n drops of at most four tubes of the set, in no order that matters. */
    private List<int[]> mixtures(int set, int n) {
        List<int[]> all = new ArrayList<>();
        mix(set, n, 0, new int[12], all);
        return all;
    }

    private void mix(int set, int left, int tube, int[] drops, List<int[]> all) {
        if (left == 0) {
            int used = 0;
            for (int d : drops) {
                used += d > 0 ? 1 : 0;
            }
            if (used <= 4) {
                all.add(drops.clone());
            }
            return;
        }
        if (tube == 12) {
            return;
        }
        mix(set, left, tube + 1, drops, all);
        if ((set & 1 << tube) != 0) {
            for (int d = 1; d <= left; d++) {
                drops[tube] = d;
                mix(set, left - d, tube + 1, drops, all);
            }
            drops[tube] = 0;
        }
    }

    private int costOf(int[] drops) {
        int sum = 0;
        for (int t = 0; t < tubes.size(); t++) {
            sum += drops[t] * tubes.get(t).cost;
        }
        return sum;
    }

    private static int total(int[] drops) {
        return Arrays.stream(drops).sum();
    }

    // ---- the calls

    int tube(int cost, int fading, int drops) {
        if (out(cost, 0, 999) || out(fading, 0, 999) || out(drops, 0, 9999)) {
            return BAD;
        }
        if (tubes.size() == 12) {
            return FULL;
        }
        PlainTube t = new PlainTube();
        t.cost = cost;
        t.fading = fading;
        t.held = drops;
        Arrays.fill(t.k, 100);
        Arrays.fill(t.s, 100);
        tubes.add(t);
        return tubes.size() - 1;
    }

    int band(int tube, int band, int k, int s) {
        if (noTube(tube) || out(band, 0, 7) || out(k, 0, 999) || out(s, 1, 999)) {
            return BAD;
        }
        tubes.get(tube).k[band] = k;
        tubes.get(tube).s[band] = s;
        return 1;
    }

    int ofTube(int tube, int what) {
        if (noTube(tube) || out(what, 0, 5)) {
            return BAD;
        }
        PlainTube t = tubes.get(tube);
        int inPots = 0;
        for (int[] pot : pots) {
            inPots += pot[tube];
        }
        return new int[] {t.cost, t.fading, t.held, inPots, laid[tube], lost[tube]}[what];
    }

    int row(int tube, int band, int years, int what) {
        if (noTube(tube) || out(band, 0, 7) || out(years, 0, 99) || out(what, 0, 1)) {
            return BAD;
        }
        PlainTube t = tubes.get(tube);
        return what == 1 ? t.s[band] : fade(t.k[band], t.fading, years);
    }

    int lamp(int lamp, int band, int v) {
        if (out(lamp, 0, 3) || out(band, 0, 7) || out(v, 0, 99)) {
            return BAD;
        }
        int was = lamps[lamp][band];
        lamps[lamp][band] = v;
        return was;
    }

    int eye(int sight, int band, int v) {
        if (out(sight, 0, 2) || out(band, 0, 7) || out(v, 0, 99)) {
            return BAD;
        }
        int was = sights[sight][band];
        sights[sight][band] = v;
        return was;
    }

    int years(int n) {
        if (out(n, 1, 99) || year + n > 99) {
            return BAD;
        }
        return year += n;
    }

    int press(int tube, int pot, int n) {
        if (noTube(tube) || out(pot, 0, 9) || out(n, 1, 99)) {
            return BAD;
        }
        if (tubes.get(tube).held < n) {
            return NOT;
        }
        if (total(pots[pot]) + n > 999) {
            return FULL;
        }
        tubes.get(tube).held -= n;
        pots[pot][tube] += n;
        return total(pots[pot]);
    }

    int pour(int pot, int other) {
        if (out(pot, 0, 9) || out(other, 0, 9) || pot == other) {
            return BAD;
        }
        if (total(pots[pot]) == 0) {
            return NOT;
        }
        if (total(pots[pot]) + total(pots[other]) > 999) {
            return FULL;
        }
        for (int t = 0; t < 12; t++) {
            pots[other][t] += pots[pot][t];
            pots[pot][t] = 0;
        }
        return total(pots[other]);
    }

    int waste(int pot) {
        if (out(pot, 0, 9)) {
            return BAD;
        }
        int all = total(pots[pot]);
        if (all == 0) {
            return NOT;
        }
        for (int t = 0; t < 12; t++) {
            lost[t] += pots[pot][t];
            pots[pot][t] = 0;
        }
        return all;
    }

    int drops(int pot, int tube) {
        if (out(pot, 0, 9) || tube != -1 && noTube(tube)) {
            return BAD;
        }
        return tube == -1 ? total(pots[pot]) : pots[pot][tube];
    }

    int thick(int pot, int band) {
        if (out(pot, 0, 9) || out(band, 0, 7)) {
            return BAD;
        }
        return total(pots[pot]) == 0 ? NOT : thickOf(pots[pot], band);
    }

    int seen(int pot, int lamp, int sight) {
        if (out(pot, 0, 9) || out(lamp, 0, 3) || out(sight, 0, 2)) {
            return BAD;
        }
        return total(pots[pot]) == 0 ? NOT : seenOf(thickRow(pots[pot]), lamp, sight);
    }

    int over(int pot, int band, int n, int g) {
        if (out(pot, 0, 9) || out(band, 0, 7) || out(n, 1, 200) || out(g, 0, 10000)) {
            return BAD;
        }
        return total(pots[pot]) == 0 ? NOT : layerOver(pots[pot], band, 0, n, g);
    }

    int hiding(int pot, int d) {
        if (out(pot, 0, 9) || out(d, 0, 10000)) {
            return BAD;
        }
        if (total(pots[pot]) == 0) {
            return NOT;
        }
        for (int n = 1; n <= 200; n++) {
            boolean hidden = true;
            for (int b = 0; b < 8 && hidden; b++) {
                hidden = Math.abs(layerOver(pots[pot], b, 0, n, 0) - layerOver(pots[pot], b, 0, n, 10000)) <= d;
            }
            if (hidden) {
                return n;
            }
        }
        return NOT;
    }

    int ground(int area, int g) {
        if (out(area, 0, 9) || out(g, 0, 10000)) {
            return BAD;
        }
        if (!areas.get(area).isEmpty()) {
            return NOT;
        }
        int was = grounds[area];
        grounds[area] = g;
        return was;
    }

    int lay(int pot, int area, int n) {
        if (out(pot, 0, 9) || out(area, 0, 9) || out(n, 1, 200)) {
            return BAD;
        }
        if (total(pots[pot]) == 0) {
            return NOT;
        }
        if (areas.get(area).size() == 10) {
            return FULL;
        }
        PlainLayer layer = new PlainLayer();
        layer.drops = pots[pot].clone();
        layer.thickness = n;
        layer.year = year;
        areas.get(area).add(layer);
        for (int t = 0; t < 12; t++) {
            laid[t] += pots[pot][t];
            pots[pot][t] = 0;
        }
        return areas.get(area).size();
    }

    int back(int area, int band, int z) {
        return out(area, 0, 9) || out(band, 0, 7) || out(z, year, 99) ? BAD : areaSends(area, band, z);
    }

    int look(int area, int lamp, int sight) {
        if (out(area, 0, 9) || out(lamp, 0, 3) || out(sight, 0, 2)) {
            return BAD;
        }
        return seenOf(areaRow(area, year), lamp, sight);
    }

    int missed(int area, int lamp, int d) {
        if (out(area, 0, 9) || out(lamp, 0, 3) || out(d, 0, 30000)) {
            return BAD;
        }
        for (int z = year; z <= 99; z++) {
            if (apartOf(areaRow(area, z), lamp, tone) > d) {
                return z;
            }
        }
        return NOT;
    }

    int tone(int a, int b, int c) {
        if (out(a, 0, 10000) || out(b, 0, 10000) || out(c, 0, 10000)) {
            return BAD;
        }
        tone = new int[] {a, b, c};
        return 1;
    }

    int apart(int area, int lamp) {
        return out(area, 0, 9) || out(lamp, 0, 3) ? BAD : apartOf(areaRow(area, year), lamp, tone);
    }

    int match(int lamp, int set, int drops) {
        if (out(lamp, 0, 3) || out(set, 1, (1 << tubes.size()) - 1) || out(drops, 1, 8)) {
            return BAD;
        }
        int[] best = null;
        int bestFar = 0;
        for (int[] mixture : mixtures(set, drops)) {
            int far = apartOf(thickRow(mixture), lamp, tone);
            if (best == null || far < bestFar || far == bestFar && comesBefore(mixture, best)) {
                best = mixture;
                bestFar = far;
            }
        }
        matched = best;
        return bestFar;
    }

    private boolean comesBefore(int[] mixture, int[] other) {
        if (costOf(mixture) != costOf(other)) {
            return costOf(mixture) < costOf(other);
        }
        for (int t = 0; t < 12; t++) {
            if (mixture[t] != other[t]) {
                return mixture[t] > other[t];
            }
        }
        return false;
    }

    int matched(int tube) {
        return noTube(tube) || matched == null ? BAD : matched[tube];
    }

    int price() {
        return matched == null ? BAD : costOf(matched);
    }

    int glaze(int lamp, int set, int g) {
        if (out(lamp, 0, 3) || out(set, 1, (1 << tubes.size()) - 1) || out(g, 0, 10000)) {
            return BAD;
        }
        List<int[]> best = null;
        int bestFar = 0;
        List<List<int[]>> stacks = new ArrayList<>();
        stacks.add(new ArrayList<>());
        for (int size = 0; size <= 3; size++) {
            List<List<int[]>> next = new ArrayList<>();
            for (List<int[]> stack : stacks) {
                int far = apartOf(stackRow(stack, g), lamp, tone);
                if (best == null || far < bestFar) {
                    best = stack;
                    bestFar = far;
                }
                if (size < 3) {
                    grow(stack, set, next);
                }
            }
            stacks = next;
        }
        glazed = best;
        return bestFar;
    }

    /** Row by row in the document's order, as the stacks they grow from are. */
    private static void grow(List<int[]> stack, int set, List<List<int[]>> next) {
        for (int t = 0; t < 12; t++) {
            boolean there = (set & 1 << t) == 0;
            for (int[] layer : stack) {
                there |= layer[0] == t;
            }
            for (int n : there ? new int[0] : new int[] {1, 2, 4}) {
                List<int[]> grown = new ArrayList<>(stack);
                grown.add(new int[] {t, n});
                next.add(grown);
            }
        }
    }

    private int[] stackRow(List<int[]> stack, int g) {
        int[] sent = new int[8];
        Arrays.fill(sent, g);
        for (int[] layer : stack) {
            int[] drops = new int[12];
            drops[layer[0]] = 1;
            for (int b = 0; b < 8; b++) {
                sent[b] = layerOver(drops, b, 0, layer[1], sent[b]);
            }
        }
        return sent;
    }

    int glazed(int i) {
        if (glazed == null || out(i, 0, glazed.size() - 1)) {
            return BAD;
        }
        return 10 * glazed.get(i)[0] + glazed.get(i)[1];
    }

    int keep() {
        if (tones.size() == 6) {
            return FULL;
        }
        tones.add(tone.clone());
        return tones.size();
    }

    int clear() {
        int were = tones.size();
        tones.clear();
        return were;
    }

    int fewest(int lamp, int drops, int d) {
        if (out(lamp, 0, 3) || out(drops, 1, 6) || out(d, 0, 30000)) {
            return BAD;
        }
        if (tones.isEmpty()) {
            return NOT;
        }
        List<int[]> reaching = new ArrayList<>();
        for (int[] mixture : mixtures((1 << tubes.size()) - 1, drops)) {
            int[] sent = thickRow(mixture);
            for (int i = 0; i < tones.size(); i++) {
                if (apartOf(sent, lamp, tones.get(i)) <= d) {
                    reaching.add(new int[] {usedBy(mixture), i});
                }
            }
        }
        int best = NOT;
        for (int set = 1; set < 1 << tubes.size(); set++) {
            if ((best == NOT || Integer.bitCount(set) < Integer.bitCount(best)) && reachesAll(set, reaching)) {
                best = set;
            }
        }
        return best;
    }

    private static int usedBy(int[] mixture) {
        int set = 0;
        for (int t = 0; t < 12; t++) {
            set += mixture[t] > 0 ? 1 << t : 0;
        }
        return set;
    }

    /** Each of the rows told is the set of tubes of a mixture, and a tone that it reaches. */
    private boolean reachesAll(int set, List<int[]> reaching) {
        boolean[] reached = new boolean[tones.size()];
        for (int[] r : reaching) {
            reached[r[1]] |= (r[0] & ~set) == 0;
        }
        for (boolean r : reached) {
            if (!r) {
                return false;
            }
        }
        return true;
    }

    int count(int what) {
        int held = 0;
        int inPots = 0;
        int layers = 0;
        for (PlainTube t : tubes) {
            held += t.held;
        }
        for (int[] pot : pots) {
            inPots += total(pot);
        }
        for (List<PlainLayer> area : areas) {
            layers += area.size();
        }
        int[] counts = {tubes.size(), year, tones.size(), inPots, total(laid), total(lost), held, layers};
        return out(what, 0, 7) ? BAD : counts[what];
    }
}
