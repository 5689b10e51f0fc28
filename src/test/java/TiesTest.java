/**
 * Which of several is the first: MATCH, FEWEST and GLAZES where mixtures, sets or stacks come equally near, and the
 * bounds of what they choose from. The paints are made so that the ties can be seen from the document's words.
 */
public final class TiesTest {
    private static final Sheet SHEET = new Sheet("TiesTest");

    /** Five tubes, each of which darkens a BAND of its own, 0 to 4; SIGHT 0 sees just these, the others nothing. */
    private static final String[] FIVE_DARKENERS = {"5 times tube 1 0 0", "paint 0 0 100", "paint 1 0 100", "paint 2 0 100",
        "paint 3 0 100", "paint 4 0 100", "band 0 0 500 100", "band 1 1 500 100", "band 2 2 500 100", "band 3 3 500 100",
        "band 4 4 500 100", "blind 0", "blind 1", "blind 2", "eye 0 0 1", "eye 0 1 1", "eye 0 2 1", "eye 0 3 1", "eye 0 4 1"};

    /** K 0, 50, 150, 200 of tubes 0 to 3: a drop each of the outer or of the inner two is K 100 and S 100, 2680. */
    private static final String[] FOUR_GREYS = {"paint 0 0 100", "paint 1 50 100", "paint 2 150 100", "paint 3 200 100"};

    private static final String[] WHITE_BLACK = {"2 times tube 1 0 0", "paint 0 0 999", "paint 1 999 1"};

    private TiesTest() {
    }

    private static void run(String sentence, String... rows) {
        SHEET.run(sentence, rows);
    }

    private static void run(String sentence, String[] first, String... then) {
        SHEET.run(sentence, Sheet.with(first, then));
    }

    public static void main(String[] args) {
        matchByCost();
        matchByTube();
        matchDrops();
        matchAtMostFour();
        fewestSets();
        fewestBounds();
        glazesByLayers();
        glazesByOrder();
        glazesOfTheSet();
        noGlaze();
        SHEET.end();
    }

    private static void matchByCost() {
        String[] threeGreys = {"paint 0 0 100", "paint 1 100 100", "paint 2 200 100", "tone 2680 2680 2680"};
        String pair = "match 0 7 2 = 0";
        run("the least COST: 2 of tube 1 cost 4, one of 0 and one of 2 cost 5", Sheet.with(
                new String[] {"tube 1 0 0", "tube 2 0 0", "tube 4 0 0"}, threeGreys),
                pair, "matched 0 = 0", "matched 1 = 2", "matched 2 = 0", "price = 4");
        run("the least COST: 6 against 5", Sheet.with(new String[] {"tube 1 0 0", "tube 3 0 0", "tube 4 0 0"}, threeGreys),
                pair, "matched 0 = 1", "matched 1 = 0", "matched 2 = 1", "price = 5");
        run("of one COST, 4 each, more of tube 0", Sheet.with(new String[] {"tube 1 0 0", "tube 2 0 0", "tube 3 0 0"}, threeGreys),
                pair, "matched 0 = 1", "matched 1 = 0", "matched 2 = 1", "price = 4");
        run("COST comes after APART: the dearest if it is nearer by 1", "tube 999 0 0", "tube 0 0 0", "paint 0 8 5", "paint 1 9 8",
                "tone 2249 2249 2249", "match 0 3 1 = 747", "matched 0 = 1", "price = 999", "tone 2250 2250 2250", "match 0 3 1 = 750",
                "matched 1 = 1", "price = 0", "tone 2251 2251 2251", "match 0 3 1 = 747", "matched 1 = 1");
        String[] three = {"tube 5 0 0", "tube 1 0 0", "dark 0", "lamp 0 7 1", "lamp 0 4 1", "lamp 0 0 1", "tone 2000 2500 3200", "band 0 7 9 8",
            "band 0 4 9 8", "band 0 0 112 155"};
        run("COST comes after APART by all SIGHTS: 500 by the first alone, and 500 more by the second", three, "band 1 7 9 8", "band 1 4 8 5",
                "band 1 0 112 155", "match 0 3 1 = 500", "matched 0 = 1", "price = 5", "match 0 2 1 = 1000");
        run("500 by the first two, and 700 more by the third", three, "band 1 7 8 5", "band 1 4 8 5", "band 1 0 9 8", "match 0 3 1 = 500",
                "matched 0 = 1", "match 0 2 1 = 1200", "band 1 0 112 155", "match 0 3 1 = 500", "matched 1 = 1", "price = 1");
        run("the farthest is a match, too", "tube 2 0 0", "tube 1 0 0", "dark 0", "tone 10000 10000 10000", "match 0 3 8 = 30000", "matched 0 = 0",
                "matched 1 = 8", "price = 8", "match 0 1 1 = 30000", "matched 0 = 1", "price = 2");
        run("COST of the DROPS, not of the tubes: 8 times 0", "tube 1 0 0", "tube 0 0 0", "match 0 3 8 = 6960", "matched 0 = 0",
                "matched 1 = 8", "price = 0");
        run("the largest COST", "12 times tube 999 0 0", "match 0 4095 8 = 6960", "matched 0 = 8", "price = 7992");
    }

    private static void matchByTube() {
        run("twins: all DROPS of the lesser TUBE", "3 times tube 2 0 0", "match 0 7 5 = 6960", "matched 0 = 5", "matched 1 = 0", "matched 2 = 0",
                "match 0 6 5 = 6960", "matched 0 = 0", "matched 1 = 5", "matched 2 = 0", "price = 10");
        run("the least TUBE in which they differ is not the least of all", "3 times tube 1 0 0", "paint 0 0 100", "paint 1 200 100",
                "paint 2 200 100", "tone 2680 2680 2680", "match 0 7 2 = 0", "matched 0 = 1", "matched 1 = 1", "matched 2 = 0",
                "match 0 5 2 = 0", "matched 0 = 1", "matched 1 = 0", "matched 2 = 1");
        run("more DROPS of it, where both have some: 1 and 3 against 2 and 2", "4 times tube 1 0 0", "paint 0 200 100", "paint 1 0 100",
                "paint 2 200 100", "paint 3 0 100", "tone 2680 2680 2680", "match 0 15 4 = 0", "matched 0 = 2", "matched 1 = 2",
                "matched 2 = 0", "matched 3 = 0");
        run("outer and inner greys cost the same: tube 0 first", Sheet.with(new String[] {"4 times tube 1 0 0"}, FOUR_GREYS),
                "tone 2680 2680 2680", "match 0 15 2 = 0", "matched 0 = 1", "matched 3 = 1", "match 0 14 2 = 0", "matched 1 = 1",
                "matched 2 = 1", "matched 3 = 0");
        run("in the dark all are one: the least COST, then the lesser TUBE", "tube 3 0 0", "tube 2 0 0", "tube 2 0 0", "dark 1",
                "match 1 7 4 = 15000", "matched 0 = 0", "matched 1 = 4", "matched 2 = 0", "price = 8");
        run("whatever they hold: empty tubes", "tube 1 0 0", "tube 2 0 0", "match 0 3 8 = 6960", "matched 0 = 8", "ofTube 0 2 = 0");
        run("a match takes nothing out of tubes and pots", "tube 1 0 9", "press 0 0 4", "match 0 1 8 = 6960", "ofTube 0 2 = 5", "drops 0 0 = 4",
                "count 3 = 4", "count 6 = 5");
    }

    private static void matchDrops() {
        int[][] nearest = {{1, 10000}, {8, 5897}, {7, 5659}, {6, 5368}, {5, 5001}};
        for (int[] n : nearest) {
            int white = n[0] == 1 ? 1 : n[0] - 1;
            run("just " + n[0] + " DROPS", WHITE_BLACK, "tone " + n[1] + " " + n[1] + " " + n[1], "match 0 3 " + n[0] + " = 0",
                    "matched 0 = " + white, "matched 1 = " + (n[0] - white), "price = " + n[0]);
        }
        run("7 white and 1 black are 8, no fewer", WHITE_BLACK, "tone 5897 5897 5897", "match 0 3 7 = 714", "match 0 3 6 = 1587",
                "match 0 3 9 = BAD", "match 0 3 0 = BAD", "matched 0 = 5", "matched 1 = 1", "match 0 3 8 = 0");
        run("of the set alone", WHITE_BLACK, "tone 10000 10000 10000", "match 0 2 8 = 29982", "matched 0 = 0", "matched 1 = 8",
                "match 0 1 8 = 0", "matched 0 = 8", "matched 1 = 0");
        run("under the LAMP told", WHITE_BLACK, "band 0 0 999 1", "tone 0 0 10000", "dark 2", "lamp 2 1 1", "match 2 3 1 = 0", "matched 0 = 1",
                "lamp 2 1 0", "lamp 2 0 1", "match 2 3 1 = 9994", "matched 0 = 1", "match 3 3 1 = 10006", "matched 0 = 0");
    }

    /** A drop each of four darkeners: 2345 in four bands. Of five, at the best: 1716, three of 2680, 10000. */
    private static void matchAtMostFour() {
        run("four TUBES are taken", FIVE_DARKENERS, "eye 0 4 0", "tone 0 0 0", "match 0 15 4 = 2345", "matched 0 = 1", "matched 1 = 1",
                "matched 2 = 1", "matched 3 = 1", "match 0 15 3 = 3960");
        run("five are not", FIVE_DARKENERS, "tone 2680 0 0", "match 0 31 5 = 1271", "matched 0 = 2", "matched 1 = 1", "matched 2 = 1",
                "matched 3 = 1", "matched 4 = 0", "price = 5");
        run("nor are they for FEWEST", FIVE_DARKENERS, "tone 2680 0 0", "keep", "fewest 0 5 0 = NOT", "fewest 0 5 1270 = NOT",
                "fewest 0 5 1271 = 15");
        run("five for two tones, of four each", FIVE_DARKENERS, "eye 0 4 0", "eye 1 1 1", "eye 1 2 1", "eye 1 3 1", "eye 1 4 1",
                "tone 2345 4258 0", "keep", "tone 4258 2345 0", "keep", "fewest 0 4 0 = 31", "fewest 0 5 0 = NOT");
    }

    private static void fewestSets() {
        String[] greys = Sheet.with(new String[] {"4 times tube 1 0 0"}, FOUR_GREYS);
        run("the least number by its bits: 6 comes before 9", greys, "tone 2680 2680 2680", "keep", "fewest 0 2 0 = 6", "fewest 0 1 0 = NOT",
                "fewest 0 4 0 = 6");
        run("fewer TUBES before a lesser number", greys, "tube 1 0 0", "tone 2680 2680 2680", "keep", "fewest 0 2 0 = 16", "fewest 0 1 0 = 16");
        run("COST does not count", "tube 999 0 0", "tube 0 0 0", "keep", "fewest 0 1 30000 = 1");
        run("whatever they hold, all there are", "11 times tube 1 0 0", "tube 1 0 0", "paint 11 0 1", "tone 10000 10000 10000", "keep",
                "fewest 0 1 0 = 2048", "fewest 0 6 0 = 2048", "fewest 0 1 30000 = 1");
        run("one tube for several TONES rather than one for each", "3 times tube 1 0 0", "paint 0 8 5", "paint 1 9 8", "paint 2 112 155",
                "tone 2000 2000 2000", "keep", "tone 2500 2500 2500", "keep", "fewest 0 1 0 = 3", "fewest 0 1 1499 = 3",
                "fewest 0 1 1500 = 1", "tone 3200 3200 3200", "keep", "fewest 0 1 0 = 7", "fewest 0 1 1500 = 5", "fewest 0 1 2100 = 2",
                "fewest 0 1 3600 = 1");
        run("the same TONE six times is as one", WHITE_BLACK, "tone 6 6 6", "6 times keep = 6", "fewest 0 1 0 = 2");
        run("each TONE of those kept: the first and the last count", WHITE_BLACK, "tone 6 6 6", "keep", "tone 10000 10000 10000",
                "5 times keep = 6", "fewest 0 1 0 = 3", "clear", "5 times keep", "tone 6 6 6", "keep = 6", "fewest 0 1 0 = 3");
    }

    private static void fewestBounds() {
        run("just so many DROPS, 1 .. 6", WHITE_BLACK, "tone 5368 5368 5368", "keep", "fewest 0 6 0 = 3", "fewest 0 5 0 = NOT",
                "fewest 0 5 1100 = NOT", "fewest 0 5 1101 = 3", "fewest 0 7 0 = BAD", "fewest 0 0 0 = BAD", "fewest 0 1 13895 = NOT",
                "fewest 0 1 13896 = 1");
        run("d 0 .. 30000", WHITE_BLACK, "tone 0 0 0", "keep", "fewest 0 6 0 = NOT", "fewest 0 6 17 = NOT", "fewest 0 6 18 = 2",
                "fewest 0 1 29999 = 2", "fewest 0 1 30000 = 1", "fewest 0 1 30001 = BAD", "fewest 0 1 -1 = BAD");
        run("under the LAMP told", WHITE_BLACK, "tone 0 0 0", "keep", "dark 3", "fewest 3 1 0 = 1", "fewest 2 1 0 = NOT", "fewest 4 1 0 = BAD",
                "fewest -1 1 0 = BAD");
        run("fewest leaves the match and the tone", WHITE_BLACK, "tone 6 6 6", "keep", "match 0 3 8 = 0", "tone 9000 9000 9000",
                "fewest 0 1 0 = 2", "matched 1 = 8", "price = 8", "apart 0 0 = 0", "count 2 = 1");
    }

    /** Greys that are twins lie on each other as one: over 9000 by thickness 8777, 8561, 8351, 8147, 7949, 7757, 7571. */
    private static void glazesByLayers() {
        String[] twins = {"4 times tube 1 0 0"};
        int[] sent = {9000, 8777, 8561, 8351, 8147, 7949, 7757, 7571, 7390, 7215, 7046, 6882, 6723};
        String[] rows = {"BAD", "1", "2", "1 12", "4", "1 14", "2 14", "1 12 24", "4 14", "1 14 24", "2 14 24", null, "4 14 24"};
        for (int n = 0; n < rows.length; n++) {
            if (rows[n] != null) {
                String[] due = (rows[n] + " BAD BAD BAD").split(" ");
                run("thickness " + n + " by the fewest LAYERS, the lesser TUBE, the lesser THICKNESS", twins,
                        "tone " + sent[n] + " " + sent[n] + " " + sent[n], "glaze 0 15 9000 = 0", "glazed 0 = " + due[0],
                        "glazed 1 = " + due[1], "glazed 2 = " + due[2], "glazed 3 = BAD");
            }
        }
        run("at most three LAYERS, at most THICKNESS 4", twins, "tone 0 0 0", "glaze 0 15 9000 = 20169", "glazed 0 = 4", "glazed 1 = 14",
                "glazed 2 = 24", "glazed 3 = BAD");
        run("THICKNESS 11 is not to be had: 10 and 12 are, 12 is nearer by 5", twins, "tone 6882 6882 6882", "glaze 0 15 9000 = 477",
                "glazed 0 = 4", "glazed 1 = 14", "glazed 2 = 24");
    }

    private static void glazesByOrder() {
        run("LAYER by LAYER: THICKNESS of the first before the TUBE of the next", "3 times tube 1 0 0", "paint 0 500 10", "paint 1 10 300",
                "paint 2 300 300", "tone 2843 2843 2843", "glaze 0 7 3000 = 0", "glazed 0 = 1", "glazed 1 = 22", "glazed 2 = BAD");
        run("any order: from the GROUND up", WHITE_BLACK, "tone 4823 4823 4823", "glaze 0 3 5000 = 0", "glazed 0 = 11", "glazed 1 = 1",
                "tone 4814 4814 4814", "glaze 0 3 5000 = 0", "glazed 0 = 1", "glazed 1 = 11");
        run("LAYERS count before the TUBE: tube 3 alone before 0 and 1", "4 times tube 1 0 0", "paint 3 300 100", "tone 8561 8561 8561",
                "glaze 0 15 9000 = 0", "glazed 0 = 2", "glazed 1 = BAD");
        run("the lesser TUBE of twins, and of the set", "12 times tube 1 0 0", "tone 8777 8777 8777", "glaze 0 4095 9000 = 0", "glazed 0 = 1",
                "glazed 1 = BAD", "glaze 0 4094 9000 = 0", "glazed 0 = 11", "glaze 0 2048 9000 = 0", "glazed 0 = 111", "glaze 0 3072 9000 = 0",
                "glazed 0 = 101");
        run("COST does not count", "tube 999 0 0", "tube 0 0 0", "tone 8777 8777 8777", "glaze 0 3 9000 = 0", "glazed 0 = 1");
    }

    private static void glazesOfTheSet() {
        run("the same not twice: one TUBE is one LAYER", "tube 1 0 0", "tone 8351 8351 8351", "glaze 0 1 9000 = 612", "glazed 0 = 4",
                "glazed 1 = BAD", "tone 7949 7949 7949", "glaze 0 1 9000 = 594", "glazed 0 = 4", "glazed 1 = BAD");
        run("two TUBES are two LAYERS at most", "2 times tube 1 0 0", "tone 0 0 0", "glaze 0 3 9000 = 22170", "glazed 0 = 4", "glazed 1 = 14",
                "glazed 2 = BAD");
        run("of the set alone", "4 times tube 1 0 0", "tone 8351 8351 8351", "glaze 0 10 9000 = 0", "glazed 0 = 11", "glazed 1 = 32",
                "glaze 0 8 9000 = 612", "glazed 0 = 34");
        run("over g 0 .. 10000", "tube 1 0 0", "tone 125 125 125", "glaze 0 1 0 = 0", "glazed 0 = 1", "tone 9751 9751 9751",
                "glaze 0 1 10000 = 0", "glazed 0 = 1", "glaze 0 1 -1 = BAD", "glaze 0 1 10001 = BAD");
        run("paint as it is in the TUBE, in any YEAR, whatever it holds", "tube 1 999 0", "years 99", "tone 8777 8777 8777",
                "glaze 0 1 9000 = 0", "glazed 0 = 1", "count 7 = 0");
        run("by the SIGHTS and the LAMP told", WHITE_BLACK, "band 0 0 999 1", "dark 1", "lamp 1 0 1", "tone 0 0 4754", "glaze 1 3 5000 = 0",
                "glazed 0 = 1", "lamp 1 0 0", "lamp 1 1 1", "glaze 1 3 5000 = 0", "glazed 0 = 11");
    }

    private static void noGlaze() {
        run("none at all counts as the fewest: just as near as one", WHITE_BLACK, "tone 4877 4877 4877", "glaze 0 2 5000 = 369", "glazed 0 = BAD",
                "tone 4876 4876 4876", "glaze 0 2 5000 = 366", "glazed 0 = 11", "tone 4878 4878 4878", "glaze 0 2 5000 = 366",
                "glazed 0 = BAD");
        run("in the dark none is as near as any", "3 times tube 1 0 0", "dark 0", "glaze 0 7 9000 = 15000", "glazed 0 = BAD", "glazed 1 = BAD",
                "glazed 2 = BAD");
        run("the GROUND is the tone", "3 times tube 1 0 0", "tone 0 0 0", "glaze 0 7 0 = 0", "glazed 0 = BAD", "tone 10000 10000 10000",
                "glaze 0 7 10000 = 0", "glazed 0 = BAD");
        run("after three LAYERS none are none", "3 times tube 1 0 0", "tone 0 0 0", "glaze 0 7 9000 = 20169", "glazed 2 = 24", "glaze 0 7 0 = 0",
                "glazed 0 = BAD", "glazed 1 = BAD", "glazed 2 = BAD", "tone 8777 8777 8777", "glaze 0 7 9000", "glazed 0 = 1", "glazed 1 = BAD");
    }
}
