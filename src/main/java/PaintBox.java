import java.util.Arrays;

/**
 * A painter's box of twelve tubes. The words in capitals in the comments are the document's terms.
 *
 * <p>No call makes rows of its own: what a call needs to reckon with is made with the object (or,
 * for FEWEST, with its first use) and used again, since all calls of a run share one room.
 */
public final class PaintBox {
    public static final int BAD = -1, NOT = -2, FULL = -3;

    private static final int BANDS = 8;
    private static final int TUBES = 12;
    private static final int POTS = 10;
    private static final int AREAS = 10;
    private static final int LAMPS = 4;
    private static final int SIGHTS = 3;
    private static final int LAST_YEAR = 99;
    private static final int YEARS = LAST_YEAR + 1;
    private static final int WHOLE = 10000;
    private static final int FARTHEST = SIGHTS * WHOLE;
    private static final int MOST_OF_A_ROW = 999;
    private static final int MOST_LIGHT = 99;
    private static final int MOST_IN_TUBE = 9999;
    private static final int MOST_IN_POT = 999;
    private static final int MOST_PRESSED = 99;
    private static final int MOST_LAYERS = 10;
    private static final int THICKEST = 200;
    private static final int MOST_TONES = 6;
    private static final int MOST_MATCH_DROPS = 8;
    private static final int MOST_FEWEST_DROPS = 6;
    private static final int MOST_TUBES_MIXED = 4;
    private static final int MOST_GLAZES = 3;
    private static final int THICKEST_GLAZE = 4;

    private final Palette palette = new Palette();
    private final Light light = new Light();
    private final Mixture[] pots = new Mixture[POTS];
    private final Area[] areas = new Area[AREAS];
    private final int[] wanted = {5000, 5000, 5000};
    private final int[][] kept = new int[MOST_TONES][SIGHTS];
    private final int[] sent = new int[BANDS];
    private final Matching matching = new Matching();
    private final Choosing choosing = new Choosing();
    private final Glazing glazing = new Glazing();
    private int keptTones = 0;
    private int theYear = 0;

    public PaintBox() {
        for (int i = 0; i < POTS; i++) {
            pots[i] = new Mixture();
        }
        for (int i = 0; i < AREAS; i++) {
            areas[i] = new Area();
        }
    }

    // ---- tubes

    public int tube(int cost, int fading, int drops) {
        if (!between(cost, 0, MOST_OF_A_ROW) || !between(fading, 0, MOST_OF_A_ROW)
                || !between(drops, 0, MOST_IN_TUBE)) {
            return BAD;
        }
        return palette.isFull() ? FULL : palette.add(new Tube(cost, fading, drops));
    }

    public int band(int tube, int band, int k, int s) {
        Tube t = palette.at(tube);
        if (t == null || !isBand(band) || !between(k, 0, MOST_OF_A_ROW) || !between(s, 1, MOST_OF_A_ROW)) {
            return BAD;
        }
        t.paint(band, k, s);
        return 1;
    }

    public int ofTube(int tube, int what) {
        Tube t = palette.at(tube);
        if (t == null) {
            return BAD;
        }
        switch (what) {
            case 0: return t.cost;
            case 1: return t.fading;
            case 2: return t.held;
            case 3: return inPots(tube);
            case 4: return t.laid;
            case 5: return t.lost;
            default: return BAD;
        }
    }

    public int row(int tube, int band, int year, int what) {
        Tube t = palette.at(tube);
        if (t == null || !isBand(band) || !between(year, 0, LAST_YEAR) || !between(what, 0, 1)) {
            return BAD;
        }
        return what == 0 ? t.drinkAfter(band, year) : t.scatterOf(band);
    }

    public int lamp(int lamp, int band, int v) {
        if (!isLamp(lamp) || !isBand(band) || !between(v, 0, MOST_LIGHT)) {
            return BAD;
        }
        return replace(light.lamps[lamp], band, v);
    }

    public int eye(int sight, int band, int v) {
        if (!isSight(sight) || !isBand(band) || !between(v, 0, MOST_LIGHT)) {
            return BAD;
        }
        return replace(light.sights[sight], band, v);
    }

    public int years(int n) {
        if (!between(n, 1, LAST_YEAR) || theYear + n > LAST_YEAR) {
            return BAD;
        }
        theYear += n;
        return theYear;
    }

    // ---- pots

    public int press(int tube, int pot, int n) {
        Tube t = palette.at(tube);
        Mixture p = potAt(pot);
        if (t == null || p == null || !between(n, 1, MOST_PRESSED)) {
            return BAD;
        }
        if (t.held < n) {
            return NOT;
        }
        if (p.total + n > MOST_IN_POT) {
            return FULL;
        }
        t.held -= n;
        p.add(tube, n);
        return p.total;
    }

    public int pour(int pot, int other) {
        Mixture from = potAt(pot);
        Mixture to = potAt(other);
        if (from == null || to == null || pot == other) {
            return BAD;
        }
        if (from.total == 0) {
            return NOT;
        }
        if (from.total + to.total > MOST_IN_POT) {
            return FULL;
        }
        to.addAll(from);
        from.makeEmpty();
        return to.total;
    }

    public int waste(int pot) {
        Mixture p = potAt(pot);
        if (p == null) {
            return BAD;
        }
        if (p.total == 0) {
            return NOT;
        }
        int lost = p.total;
        palette.countLost(p);
        p.makeEmpty();
        return lost;
    }

    public int drops(int pot, int tube) {
        Mixture p = potAt(pot);
        if (p == null) {
            return BAD;
        }
        if (tube == -1) {
            return p.total;
        }
        return palette.at(tube) == null ? BAD : p.of(tube);
    }

    public int thick(int pot, int band) {
        Mixture p = potAt(pot);
        if (p == null || !isBand(band)) {
            return BAD;
        }
        return p.total == 0 ? NOT : p.sentThick(palette, band);
    }

    public int seen(int pot, int lamp, int sight) {
        Mixture p = potAt(pot);
        if (p == null || !isLamp(lamp) || !isSight(sight)) {
            return BAD;
        }
        if (p.total == 0) {
            return NOT;
        }
        light.shine(lamp);
        for (int b = 0; b < BANDS; b++) {
            sent[b] = p.sentThick(palette, b);
        }
        return light.bySight(sight, sent);
    }

    public int over(int pot, int band, int n, int g) {
        Mixture p = potAt(pot);
        if (p == null || !isBand(band) || !between(n, 1, THICKEST) || !isShare(g)) {
            return BAD;
        }
        if (p.total == 0) {
            return NOT;
        }
        int k = p.drink(palette, band, 0);
        int s = p.scatter(palette, band);
        return Optics.layered(Optics.thinTake(k, s), Optics.thinSend(k, s), n, g);
    }

    public int hiding(int pot, int d) {
        Mixture p = potAt(pot);
        if (p == null || !isShare(d)) {
            return BAD;
        }
        if (p.total == 0) {
            return NOT;
        }
        int most = 1;
        for (int b = 0; b < BANDS && most <= THICKEST; b++) {
            int k = p.drink(palette, b, 0);
            int s = p.scatter(palette, b);
            most = Math.max(most, Optics.leastHiding(Optics.thinTake(k, s), Optics.thinSend(k, s), d));
        }
        return most > THICKEST ? NOT : most;
    }

    // ---- the picture

    public int ground(int area, int g) {
        Area a = areaAt(area);
        if (a == null || !isShare(g)) {
            return BAD;
        }
        if (a.size > 0) {
            return NOT;
        }
        int was = a.ground;
        a.ground = g;
        return was;
    }

    public int lay(int pot, int area, int n) {
        Mixture p = potAt(pot);
        Area a = areaAt(area);
        if (p == null || a == null || !between(n, 1, THICKEST)) {
            return BAD;
        }
        if (p.total == 0) {
            return NOT;
        }
        if (a.isFull()) {
            return FULL;
        }
        a.add(new Layer(p, n, theYear));
        palette.countLaid(p);
        p.makeEmpty();
        return a.size;
    }

    public int back(int area, int band, int year) {
        Area a = areaAt(area);
        if (a == null || !isBand(band) || !between(year, theYear, LAST_YEAR)) {
            return BAD;
        }
        return a.sentBack(palette, band, year);
    }

    public int look(int area, int lamp, int sight) {
        Area a = areaAt(area);
        if (a == null || !isLamp(lamp) || !isSight(sight)) {
            return BAD;
        }
        light.shine(lamp);
        sendFrom(a, theYear);
        return light.bySight(sight, sent);
    }

    public int missed(int area, int lamp, int d) {
        Area a = areaAt(area);
        if (a == null || !isLamp(lamp) || !between(d, 0, FARTHEST)) {
            return BAD;
        }
        light.shine(lamp);
        for (int y = theYear; y <= LAST_YEAR; y++) {
            sendFrom(a, y);
            if (light.farFrom(wanted, sent) > d) {
                return y;
            }
        }
        return NOT;
    }

    // ---- tones

    public int tone(int a, int b, int c) {
        if (!isShare(a) || !isShare(b) || !isShare(c)) {
            return BAD;
        }
        wanted[0] = a;
        wanted[1] = b;
        wanted[2] = c;
        return 1;
    }

    public int apart(int area, int lamp) {
        Area a = areaAt(area);
        if (a == null || !isLamp(lamp)) {
            return BAD;
        }
        light.shine(lamp);
        sendFrom(a, theYear);
        return light.farFrom(wanted, sent);
    }

    public int match(int lamp, int set, int drops) {
        if (!isLamp(lamp) || !palette.hasSet(set) || !between(drops, 1, MOST_MATCH_DROPS)) {
            return BAD;
        }
        light.shine(lamp);
        return matching.nearest(palette, light, wanted, set, drops);
    }

    public int matched(int tube) {
        return palette.at(tube) == null || !matching.any ? BAD : matching.dropsOf(tube);
    }

    public int price() {
        return matching.any ? matching.bestCost : BAD;
    }

    public int glaze(int lamp, int set, int g) {
        if (!isLamp(lamp) || !palette.hasSet(set) || !isShare(g)) {
            return BAD;
        }
        light.shine(lamp);
        return glazing.nearest(palette, light, wanted, set, g);
    }

    public int glazed(int i) {
        return between(i, 0, glazing.bestSize - 1) ? glazing.bestLayer(i) : BAD;
    }

    public int keep() {
        if (keptTones >= MOST_TONES) {
            return FULL;
        }
        for (int i = 0; i < SIGHTS; i++) {
            kept[keptTones][i] = wanted[i];
        }
        keptTones++;
        return keptTones;
    }

    public int clear() {
        int were = keptTones;
        keptTones = 0;
        return were;
    }

    public int fewest(int lamp, int drops, int d) {
        if (!isLamp(lamp) || !between(drops, 1, MOST_FEWEST_DROPS) || !between(d, 0, FARTHEST)) {
            return BAD;
        }
        if (keptTones == 0 || palette.size == 0) {
            return NOT;
        }
        light.shine(lamp);
        choosing.aimAt(kept, keptTones, d);
        return choosing.fewestOf(palette, light, drops);
    }

    public int count(int what) {
        switch (what) {
            case 0: return palette.size;
            case 1: return theYear;
            case 2: return keptTones;
            case 3: return allInPots();
            case 4: return palette.allLaid();
            case 5: return palette.allLost();
            case 6: return palette.allHeld();
            case 7: return allLayers();
            default: return BAD;
        }
    }

    // ---- what the calls share

    private static boolean between(int n, int least, int most) {
        return n >= least && n <= most;
    }

    private static boolean isBand(int n) {
        return between(n, 0, BANDS - 1);
    }

    private static boolean isLamp(int n) {
        return between(n, 0, LAMPS - 1);
    }

    private static boolean isSight(int n) {
        return between(n, 0, SIGHTS - 1);
    }

    private static boolean isShare(int n) {
        return between(n, 0, WHOLE);
    }

    private static int replace(int[] row, int i, int v) {
        int was = row[i];
        row[i] = v;
        return was;
    }

    private Mixture potAt(int pot) {
        return between(pot, 0, POTS - 1) ? pots[pot] : null;
    }

    private Area areaAt(int area) {
        return between(area, 0, AREAS - 1) ? areas[area] : null;
    }

    private int inPots(int tube) {
        int sum = 0;
        for (int i = 0; i < POTS; i++) {
            sum += pots[i].of(tube);
        }
        return sum;
    }

    private int allInPots() {
        int sum = 0;
        for (int i = 0; i < POTS; i++) {
            sum += pots[i].total;
        }
        return sum;
    }

    private int allLayers() {
        int sum = 0;
        for (int i = 0; i < AREAS; i++) {
            sum += areas[i].size;
        }
        return sum;
    }

    /** Bands that no sight can see under the lamp are left out: they weigh nothing, and layers are dear. */
    private void sendFrom(Area area, int year) {
        for (int b = 0; b < BANDS; b++) {
            if (light.shown[b]) {
                sent[b] = area.sentBack(palette, b, year);
            }
        }
    }

    /** What paint does to light, by its K and S of one BAND alone. */
    private static final class Optics {
        private static final int NEWTON_STEPS = 64;

        private Optics() {
        }

        /**
         * THICK. ROOT is found by Newton's steps from 10000 + q, which is above it: they fall until they
         * are there, after fourteen at the most (q 0).
         */
        static int thickSent(int k, int s) {
            if (s <= 0) {
                return 0;
            }
            long q = 10000L * k / s;
            long square = q * q + 20000L * q;
            long root = WHOLE + q;
            for (int i = 0; i < NEWTON_STEPS && root > 0; i++) {
                long next = (root + square / root) / 2;
                if (next >= root) {
                    break;
                }
                root = next;
            }
            return (int) (WHOLE + q - root);
        }

        /** The document's 2000 K / (8 (K + S)), cut by 8. */
        static int thinTake(int k, int s) {
            int both = k + s;
            return both <= 0 ? 0 : 250 * k / both;
        }

        static int thinSend(int k, int s) {
            int both = k + s;
            return both <= 0 ? 0 : 250 * s / both;
        }

        static int thin(int take, int send, int g) {
            long through = WHOLE - take - send;
            long under = 100000000L - (long) send * g;
            return under <= 0 ? send : (int) (send + through * through * g / under);
        }

        static int layered(int take, int send, int n, int g) {
            int sent = g;
            for (int i = 0; i < n; i++) {
                int next = thin(take, send, sent);
                if (next == sent) {
                    return sent;
                }
                sent = next;
            }
            return sent;
        }

        /**
         * One more than THICKEST if there is none. A thin layer never brings two grounds further apart,
         * so a band that is hidden stays so, and each band may be asked alone.
         */
        static int leastHiding(int take, int send, int d) {
            int dark = 0;
            int bright = WHOLE;
            for (int n = 1; n <= THICKEST; n++) {
                dark = thin(take, send, dark);
                bright = thin(take, send, bright);
                if (bright - dark <= d) {
                    return n;
                }
            }
            return THICKEST + 1;
        }
    }

    private static final class Tube {
        final int cost;
        final int fading;
        int held;
        int laid = 0;
        int lost = 0;
        /** K of band b FADED by y YEARS stands at b * YEARS + y: it is asked for far more often than told. */
        private final int[] drinks = new int[BANDS * YEARS];
        private final int[] scatters = new int[BANDS];

        Tube(int cost, int fading, int held) {
            this.cost = cost;
            this.fading = fading;
            this.held = held;
            for (int b = 0; b < BANDS; b++) {
                paint(b, 100, 100);
            }
        }

        void paint(int band, int k, int s) {
            scatters[band] = s;
            int faded = k;
            for (int y = 0; y < YEARS; y++) {
                drinks[band * YEARS + y] = faded;
                faded = faded * (1000 - fading) / 1000;
            }
        }

        int drinkAfter(int band, int years) {
            return drinks[band * YEARS + years];
        }

        int scatterOf(int band) {
            return scatters[band];
        }
    }

    /** The TUBES as they came. */
    private static final class Palette {
        private final Tube[] tubes = new Tube[TUBES];
        int size = 0;

        boolean isFull() {
            return size >= TUBES;
        }

        int add(Tube tube) {
            if (isFull()) {
                return FULL;
            }
            tubes[size] = tube;
            size++;
            return size - 1;
        }

        Tube at(int tube) {
            return between(tube, 0, size - 1) ? tubes[tube] : null;
        }

        boolean hasSet(int set) {
            return between(set, 1, (1 << size) - 1);
        }

        void countLost(Mixture mixture) {
            for (int i = 0; i < size; i++) {
                tubes[i].lost += mixture.of(i);
            }
        }

        void countLaid(Mixture mixture) {
            for (int i = 0; i < size; i++) {
                tubes[i].laid += mixture.of(i);
            }
        }

        int allLaid() {
            int sum = 0;
            for (int i = 0; i < size; i++) {
                sum += tubes[i].laid;
            }
            return sum;
        }

        int allLost() {
            int sum = 0;
            for (int i = 0; i < size; i++) {
                sum += tubes[i].lost;
            }
            return sum;
        }

        int allHeld() {
            int sum = 0;
            for (int i = 0; i < size; i++) {
                sum += tubes[i].held;
            }
            return sum;
        }
    }

    /** DROPS by TUBE: a POT's, or a LAYER's. */
    private static final class Mixture {
        private final int[] amounts = new int[TUBES];
        int total = 0;

        int of(int tube) {
            return amounts[tube];
        }

        void add(int tube, int n) {
            amounts[tube] += n;
            total += n;
        }

        void addAll(Mixture other) {
            for (int i = 0; i < TUBES; i++) {
                add(i, other.amounts[i]);
            }
        }

        void makeEmpty() {
            Arrays.fill(amounts, 0);
            total = 0;
        }

        int drink(Palette palette, int band, int years) {
            int sum = 0;
            for (int i = 0; i < palette.size; i++) {
                if (amounts[i] > 0) {
                    sum += amounts[i] * palette.tubes[i].drinkAfter(band, years);
                }
            }
            return sum;
        }

        int scatter(Palette palette, int band) {
            int sum = 0;
            for (int i = 0; i < palette.size; i++) {
                if (amounts[i] > 0) {
                    sum += amounts[i] * palette.tubes[i].scatterOf(band);
                }
            }
            return sum;
        }

        int sentThick(Palette palette, int band) {
            return Optics.thickSent(drink(palette, band, 0), scatter(palette, band));
        }
    }

    /**
     * A LAYER on an AREA. It keeps its latest answer by band: most paints hardly change from a year to
     * the next, and one look asks for the same layers as the look before.
     */
    private static final class Layer {
        private final Mixture mixture = new Mixture();
        private final int thickness;
        private final int laidIn;
        private final int[] lastTake = new int[BANDS];
        private final int[] lastSend = new int[BANDS];
        private final int[] lastUnder = new int[BANDS];
        private final int[] lastSent = new int[BANDS];

        Layer(Mixture pot, int thickness, int year) {
            mixture.addAll(pot);
            this.thickness = thickness;
            laidIn = year;
            Arrays.fill(lastUnder, -1);
        }

        int sentOver(Palette palette, int band, int year, int g) {
            int k = mixture.drink(palette, band, year - laidIn);
            int s = mixture.scatter(palette, band);
            int take = Optics.thinTake(k, s);
            int send = Optics.thinSend(k, s);
            if (g != lastUnder[band] || take != lastTake[band] || send != lastSend[band]) {
                lastUnder[band] = g;
                lastTake[band] = take;
                lastSend[band] = send;
                lastSent[band] = Optics.layered(take, send, thickness, g);
            }
            return lastSent[band];
        }
    }

    private static final class Area {
        private final Layer[] layers = new Layer[MOST_LAYERS];
        int size = 0;
        int ground = 9000;

        boolean isFull() {
            return size >= MOST_LAYERS;
        }

        void add(Layer layer) {
            if (!isFull()) {
                layers[size] = layer;
                size++;
            }
        }

        int sentBack(Palette palette, int band, int year) {
            int g = ground;
            for (int i = 0; i < size; i++) {
                g = layers[i].sentOver(palette, band, year, g);
            }
            return g;
        }
    }

    /** LAMPS and THE EYE, and the weights of bands under the lamp that shines just now. */
    private static final class Light {
        final int[][] lamps = new int[LAMPS][BANDS];
        final int[][] sights = new int[SIGHTS][BANDS];
        final int[][] weights = new int[SIGHTS][BANDS];
        final int[] sums = new int[SIGHTS];
        final boolean[] shown = new boolean[BANDS];

        Light() {
            for (int i = 0; i < LAMPS; i++) {
                Arrays.fill(lamps[i], 10);
            }
            for (int b = 0; b < 3; b++) {
                sights[0][5 + b] = 1;
                sights[1][3 + b] = 1;
                sights[2][b] = 1;
            }
        }

        void shine(int lamp) {
            Arrays.fill(sums, 0);
            for (int b = 0; b < BANDS; b++) {
                shown[b] = false;
                for (int i = 0; i < SIGHTS; i++) {
                    weights[i][b] = lamps[lamp][b] * sights[i][b];
                    sums[i] += weights[i][b];
                    shown[b] |= weights[i][b] > 0;
                }
            }
        }

        int bySight(int sight, int[] sent) {
            if (sums[sight] <= 0) {
                return 0;
            }
            int[] weight = weights[sight];
            int sum = 0;
            for (int b = 0; b < BANDS; b++) {
                sum += weight[b] * sent[b];
            }
            return sum / sums[sight];
        }

        int farFrom(int[] tone, int[] sent) {
            int far = 0;
            for (int i = 0; i < SIGHTS; i++) {
                far += Math.abs(bySight(i, sent) - tone[i]);
            }
            return far;
        }
    }

    /**
     * Goes through all MIXTURES of just so many DROPS of at most four TUBES of a set. They come in the
     * document's order, those with more DROPS of the least TUBE first, so that the first of several
     * equals is the one to keep.
     */
    private abstract static class Search {
        /** The TUBES of the set, with their COST, K and S: row i is that of TUBE members[i]. */
        private final int[] members = new int[TUBES];
        private final int[] costs = new int[TUBES];
        private final int[][] drinks = new int[TUBES][BANDS];
        private final int[][] scatters = new int[TUBES][BANDS];
        private int size = 0;
        /** The mixture so far: level by level a member and its drops, and the sums of all levels below. */
        private final int[] chosen = new int[MOST_TUBES_MIXED];
        private final int[] amounts = new int[MOST_TUBES_MIXED];
        private final int[][] drinkSums = new int[MOST_TUBES_MIXED][BANDS];
        private final int[][] scatterSums = new int[MOST_TUBES_MIXED][BANDS];
        private int top = 0;
        /** What the whole mixture sends back, below 0 where nobody has asked yet. */
        private final int[] sent = new int[BANDS];

        /** Is told of each mixture. */
        abstract void weigh(Light light);

        final void goThrough(Palette palette, Light light, int set, int drops) {
            size = 0;
            for (int t = 0; t < TUBES; t++) {
                Tube tube = palette.at(t);
                if (tube != null && (set >> t & 1) == 1) {
                    addMember(t, tube);
                }
            }
            spread(light, 0, 0, drops);
        }

        private void addMember(int number, Tube tube) {
            members[size] = number;
            costs[size] = tube.cost;
            for (int b = 0; b < BANDS; b++) {
                drinks[size][b] = tube.drinkAfter(b, 0);
                scatters[size][b] = tube.scatterOf(b);
            }
            size++;
        }

        private void spread(Light light, int level, int from, int left) {
            if (level >= MOST_TUBES_MIXED) {
                return;
            }
            for (int m = from; m < size; m++) {
                chosen[level] = m;
                amounts[level] = left;
                top = level;
                Arrays.fill(sent, -1);
                weigh(light);
                if (level + 1 < MOST_TUBES_MIXED && m + 1 < size) {
                    for (int n = left - 1; n > 0; n--) {
                        amounts[level] = n;
                        sumUp(level);
                        spread(light, level + 1, m + 1, left - n);
                    }
                }
            }
        }

        /** The sums of level 0 stay 0: nothing is below it. */
        private void sumUp(int level) {
            int n = amounts[level];
            int m = chosen[level];
            for (int b = 0; b < BANDS; b++) {
                drinkSums[level + 1][b] = drinkSums[level][b] + n * drinks[m][b];
                scatterSums[level + 1][b] = scatterSums[level][b] + n * scatters[m][b];
            }
        }

        /** Reckons only the bands that this sight sees: most mixtures are given up after one sight. */
        final int bySight(Light light, int sight) {
            int n = amounts[top];
            int m = chosen[top];
            for (int b = 0; b < BANDS; b++) {
                if (sent[b] < 0 && light.weights[sight][b] > 0) {
                    sent[b] = Optics.thickSent(drinkSums[top][b] + n * drinks[m][b],
                            scatterSums[top][b] + n * scatters[m][b]);
                }
            }
            return light.bySight(sight, sent);
        }

        final int tubesUsed() {
            int set = 0;
            for (int i = 0; i <= top; i++) {
                set |= 1 << members[chosen[i]];
            }
            return set;
        }

        final int cost() {
            int sum = 0;
            for (int i = 0; i <= top; i++) {
                sum += amounts[i] * costs[chosen[i]];
            }
            return sum;
        }

        final void writeDrops(int[] byTube) {
            Arrays.fill(byTube, 0);
            for (int i = 0; i <= top; i++) {
                byTube[members[chosen[i]]] = amounts[i];
            }
        }
    }

    /** MATCH. */
    private static final class Matching extends Search {
        boolean any = false;
        int bestCost = 0;
        private int bestFar = 0;
        private final int[] best = new int[TUBES];
        private final int[] goal = new int[SIGHTS];

        int nearest(Palette palette, Light light, int[] tone, int set, int drops) {
            System.arraycopy(tone, 0, goal, 0, SIGHTS);
            any = true;
            bestFar = FARTHEST + 1;
            goThrough(palette, light, set, drops);
            return bestFar;
        }

        int dropsOf(int tube) {
            return best[tube];
        }

        void weigh(Light light) {
            int far = 0;
            for (int i = 0; i < SIGHTS && far <= bestFar; i++) {
                far += Math.abs(bySight(light, i) - goal[i]);
            }
            if (far > bestFar) {
                return;
            }
            int cost = cost();
            if (far < bestFar || cost < bestCost) {
                bestFar = far;
                bestCost = cost;
                writeDrops(best);
            }
        }
    }

    /** FEWEST. */
    private static final class Choosing extends Search {
        /** By set of TUBES, the bits of the TONES that it reaches. Made with the first use: most boxes need none. */
        private int[] reached = new int[0];
        private final int[][] goals = new int[MOST_TONES][SIGHTS];
        private int goalCount = 0;
        private int allGoals = 0;
        private int farthest = 0;

        void aimAt(int[][] tones, int n, int d) {
            goalCount = n;
            allGoals = (1 << n) - 1;
            farthest = d;
            for (int i = 0; i < n; i++) {
                System.arraycopy(tones[i], 0, goals[i], 0, SIGHTS);
            }
        }

        int fewestOf(Palette palette, Light light, int drops) {
            if (reached.length == 0) {
                reached = new int[1 << TUBES];
            }
            Arrays.fill(reached, 0);
            int sets = 1 << palette.size;
            goThrough(palette, light, sets - 1, drops);
            passOn(sets);
            return leastOf(sets);
        }

        void weigh(Light light) {
            int set = tubesUsed();
            if (reached[set] == allGoals) {
                return;
            }
            int a = bySight(light, 0);
            int b = bySight(light, 1);
            int c = bySight(light, 2);
            for (int i = 0; i < goalCount; i++) {
                int[] goal = goals[i];
                if (Math.abs(a - goal[0]) + Math.abs(b - goal[1]) + Math.abs(c - goal[2]) <= farthest) {
                    reached[set] |= 1 << i;
                }
            }
        }

        /** A set reaches what any of its parts reaches; tube by tube this is handed on to all that hold them. */
        private void passOn(int sets) {
            for (int t = 0; t < TUBES; t++) {
                int bit = 1 << t;
                for (int set = 0; set < sets; set++) {
                    if ((set & bit) != 0) {
                        reached[set] |= reached[set ^ bit];
                    }
                }
            }
        }

        private int leastOf(int sets) {
            int best = NOT;
            int bestSize = TUBES + 1;
            for (int set = 1; set < sets; set++) {
                if (reached[set] == allGoals && Integer.bitCount(set) < bestSize) {
                    best = set;
                    bestSize = Integer.bitCount(set);
                }
            }
            return best;
        }
    }

    /** GLAZES. */
    private static final class Glazing {
        /** 0 before any search, too: so that none of its layers can be asked for. */
        int bestSize = 0;
        private int bestFar = 0;
        private final int[] best = new int[MOST_GLAZES];
        private final int[] goal = new int[SIGHTS];
        private final int[][] takes = new int[TUBES][BANDS];
        private final int[][] sends = new int[TUBES][BANDS];
        /** Row i is what is sent back with i layers laid. */
        private final int[][] sent = new int[MOST_GLAZES + 1][BANDS];
        private final int[] laid = new int[MOST_GLAZES];

        int nearest(Palette palette, Light light, int[] tone, int set, int g) {
            System.arraycopy(tone, 0, goal, 0, SIGHTS);
            for (int t = 0; t < TUBES; t++) {
                Tube tube = palette.at(t);
                if (tube != null) {
                    readThin(t, tube);
                }
            }
            Arrays.fill(sent[0], g);
            bestSize = 0;
            bestFar = light.farFrom(goal, sent[0]);
            layOn(light, 0, set);
            return bestFar;
        }

        int bestLayer(int i) {
            return best[i];
        }

        private void readThin(int number, Tube tube) {
            for (int b = 0; b < BANDS; b++) {
                int k = tube.drinkAfter(b, 0);
                int s = tube.scatterOf(b);
                takes[number][b] = Optics.thinTake(k, s);
                sends[number][b] = Optics.thinSend(k, s);
            }
        }

        /** Each THICKNESS goes on from the one before: 1, then 1 more, then 2 more thin ones. */
        private void layOn(Light light, int size, int set) {
            if (size >= MOST_GLAZES) {
                return;
            }
            for (int t = 0; t < TUBES; t++) {
                if ((set >> t & 1) == 1) {
                    System.arraycopy(sent[size], 0, sent[size + 1], 0, BANDS);
                    int there = 0;
                    for (int n = 1; n <= THICKEST_GLAZE; n *= 2) {
                        thicken(light, sent[size + 1], t, n - there);
                        there = n;
                        laid[size] = 10 * t + n;
                        weigh(light, size + 1);
                        layOn(light, size + 1, set & ~(1 << t));
                    }
                }
            }
        }

        private void thicken(Light light, int[] row, int tube, int n) {
            for (int b = 0; b < BANDS; b++) {
                if (light.shown[b]) {
                    row[b] = Optics.layered(takes[tube][b], sends[tube][b], n, row[b]);
                }
            }
        }

        /** Stacks of one size come in the document's order, so that only a nearer or a lower one may follow. */
        private void weigh(Light light, int size) {
            int far = 0;
            for (int i = 0; i < SIGHTS && far <= bestFar; i++) {
                far += Math.abs(light.bySight(i, sent[size]) - goal[i]);
            }
            if (far < bestFar || far == bestFar && size < bestSize) {
                bestFar = far;
                bestSize = size;
                System.arraycopy(laid, 0, best, 0, size);
            }
        }
    }
}
