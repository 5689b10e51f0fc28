import java.util.List;

/**
 * The sentences of "What it is", of "Terms" and of the promises that name a boundary case, one run of calls or more
 * for each. The numbers due were worked out from the document's words, not with PaintBox.
 */
public final class EdgesTest {
    private static final Sheet SHEET = new Sheet("EdgesTest");

    private EdgesTest() {
    }

    private static void run(String sentence, String... rows) {
        SHEET.run(sentence, rows);
    }

    public static void main(String[] args) {
        theLastCall();
        tubes();
        rows();
        fading();
        mixtures();
        thick();
        root();
        layers();
        hiding();
        lampsAndEye();
        seen();
        apart();
        pots();
        pouring();
        wastedAndLaid();
        areas();
        theYear();
        layersFade();
        missed();
        tones();
        counts();
        SHEET.end();
    }

    /** "An object is used for at most 512 calls after it has been made": the 512th still answers as it should. */
    private static void theLastCall() {
        List<String> calls = List.of("tube 1 2 3", "band 4 7 0 999", "ofTube 3 5", "row 1 7 99 0", "lamp 1 0 4", "eye 1 0 3",
                "years 92", "press 0 0 99", "pour 0 1", "waste 9", "drops 0 4", "thick 0 7", "seen 0 3 2",
                "over 0 7 200 10000", "hiding 0 5000", "ground 4 7", "lay 0 0 200", "back 0 0 99", "look 9 3 2",
                "missed 0 0 9000", "tone 1 2 3", "apart 0 0", "match 0 31 8", "matched 0", "price", "glaze 0 31 10000",
                "glazed 1", "keep", "clear", "fewest 0 6 9000", "count 6");
        for (String call : calls) {
            PaintBox x = Scene.STUDIO.box();
            for (int i = Scene.STUDIO.calls() + 1; i < Face.MOST_CALLS; i++) {
                Sheet.ask(x, i % 2 == 0 ? "press 0 10 1" : "keep");
            }
            PlainBox plain = Scene.STUDIO.plain();
            while (Sheet.ask(plain, "keep") != Face.FULL) {
                continue;
            }
            int got = Sheet.ask(x, call);
            int want = Sheet.ask(plain, call);
            SHEET.check(got == want, "the 512th call, " + call + ", answered " + got + ", due is " + want);
        }
    }

    private static void tubes() {
        run("TUBES 0 .. 11, as they came",
                "count 0 = 0", "ofTube 0 0 = BAD", "tube 7 1 2 = 0", "ofTube 0 0 = 7", "ofTube 1 0 = BAD",
                "10 times tube 0 0 0 = 10", "ofTube 11 0 = BAD", "tube 8 3 4 = 11", "count 0 = 12", "ofTube 11 0 = 8",
                "ofTube 0 0 = 7", "ofTube 12 0 = BAD", "ofTube -1 0 = BAD");
        run("a thirteenth tube is FULL, and so are all that follow",
                "12 times tube 5 6 7 = 11", "tube 1 1 1 = FULL", "tube 0 0 0 = FULL", "tube 999 999 9999 = FULL", "count 0 = 12",
                "ofTube 0 0 = 5", "ofTube 11 0 = 5", "ofTube 11 1 = 6", "ofTube 11 2 = 7", "count 6 = 84");
        run("a refused tube takes no number",
                "tube -1 0 0 = BAD", "tube 0 1000 0 = BAD", "count 0 = 0", "tube 0 0 0 = 0", "tube 0 0 10000 = BAD", "tube 0 0 0 = 1");
        run("COST, FADING and DROPS at their least", "tube 0 0 0 = 0", "ofTube 0 0 = 0", "ofTube 0 1 = 0", "ofTube 0 2 = 0",
                "press 0 0 1 = NOT");
        run("COST, FADING and DROPS at their most", "tube 999 999 9999 = 0", "ofTube 0 0 = 999", "ofTube 0 1 = 999",
                "ofTube 0 2 = 9999", "press 0 0 99 = 99", "ofTube 0 2 = 9900");
        run("a new tube is in no pot, nothing of it laid or lost", "tube 1 1 9 = 0", "ofTube 0 3 = 0", "ofTube 0 4 = 0",
                "ofTube 0 5 = 0", "ofTube 0 6 = BAD");
        run("of a TUBE, not of all: what is in pots, laid, lost", "tube 0 0 50", "tube 0 0 50", "press 0 0 3", "press 1 0 4",
                "press 1 9 5", "ofTube 0 3 = 3", "ofTube 1 3 = 9", "lay 0 0 1", "waste 9", "ofTube 0 3 = 0", "ofTube 1 3 = 0",
                "ofTube 0 4 = 3", "ofTube 1 4 = 4", "ofTube 0 5 = 0", "ofTube 1 5 = 5", "ofTube 0 2 = 47", "ofTube 1 2 = 41");
    }

    private static void rows() {
        for (int b = 0; b < 8; b++) {
            run("K 100 and S 100 in each BAND", "tube 1 0 0", "row 0 " + b + " 0 0 = 100", "row 0 " + b + " 0 1 = 100");
            run("K 0 .. 999, S 1 .. 999, of this band alone", "2 times tube 1 0 0", "band 1 " + b + " 0 1 = 1",
                    "row 1 " + b + " 0 0 = 0", "row 1 " + b + " 0 1 = 1", "band 1 " + b + " 999 999 = 1",
                    "row 1 " + b + " 0 0 = 999", "row 1 " + b + " 0 1 = 999", "row 0 " + b + " 0 0 = 100",
                    "row 1 " + (b + 1) % 8 + " 0 0 = 100", "row 1 " + (b + 7) % 8 + " 0 1 = 100");
        }
        run("S is 1 at least: a refused band changes neither K nor S", "tube 1 0 0", "band 0 0 5 0 = BAD", "row 0 0 0 0 = 100",
                "band 0 0 1000 5 = BAD", "row 0 0 0 1 = 100", "band 0 0 5 1000 = BAD", "band 0 0 -1 5 = BAD",
                "row 0 0 0 0 = 100", "row 0 0 0 1 = 100");
        run("what was laid changes, too, also in years to come and after years", "tube 0 999 9", "press 0 0 1", "lay 0 3 10",
                "back 3 7 0 = 7046", "back 3 7 1 = 9020", "band 0 7 0 100", "back 3 7 0 = 9020", "back 3 6 0 = 7046", "years 1",
                "band 0 6 0 1", "back 3 6 1 = 9020", "band 0 6 999 1", "back 3 6 1 = 9020");
    }

    private static void fading() {
        run("FADED by no YEARS is as it is, by 99 the most", "tube 0 999 0", "row 0 0 0 0 = 100", "row 0 0 1 0 = 0", "row 0 0 99 0 = 0",
                "row 0 0 100 0 = BAD", "row 0 0 -1 0 = BAD");
        run("FADING 0 keeps K", "tube 0 0 0", "band 0 0 999 1", "row 0 0 99 0 = 999");
        run("the rest away: a K of 1 is gone in a year", "tube 0 1 0", "band 0 0 1 1", "row 0 0 0 0 = 1", "row 0 0 1 0 = 0",
                "band 0 0 999 1", "row 0 0 1 0 = 998", "row 0 0 99 0 = 900");
        run("one year after the other, the rest away each time", "tube 0 500 0", "band 0 0 999 1", "row 0 0 1 0 = 499",
                "row 0 0 2 0 = 249", "row 0 0 9 0 = 1", "row 0 0 10 0 = 0", "band 0 0 3 1", "row 0 0 1 0 = 1");
        run("K 0 stays 0, S stays", "tube 0 999 0", "band 0 0 0 999", "row 0 0 99 0 = 0", "row 0 0 99 1 = 999", "row 0 0 1 1 = 999",
                "row 0 0 0 1 = 999", "row 0 0 100 1 = BAD");
        run("what is in TUBES and POTS does not fade", "tube 0 999 9", "press 0 0 1", "years 99", "row 0 0 0 0 = 100",
                "row 0 0 1 0 = 0", "thick 0 0 = 2680", "seen 0 0 0 = 2680", "over 0 0 1 10000 = 9751", "hiding 0 5000 = 18",
                "match 0 1 1 = 6960", "lay 0 0 10 = 1", "back 0 0 99 = 7046");
    }

    private static void mixtures() {
        run("one DROP at least: none is NOT, one is enough", "tube 0 0 9", "thick 0 0 = NOT", "seen 0 0 0 = NOT", "over 0 0 1 0 = NOT",
                "hiding 0 10000 = NOT", "lay 0 0 1 = NOT", "press 0 0 1 = 1", "thick 0 0 = 2680", "seen 0 0 0 = 2680",
                "over 0 0 1 0 = 125", "hiding 0 10000 = 1", "lay 0 0 1 = 1", "thick 0 0 = NOT", "seen 0 0 0 = NOT",
                "over 0 0 1 0 = NOT", "hiding 0 10000 = NOT", "lay 0 0 1 = NOT");
        run("nor is there one in a pot that was poured out or wasted", "tube 0 0 9", "press 0 0 1", "pour 0 1", "thick 0 0 = NOT",
                "thick 1 0 = 2680", "waste 1", "thick 1 0 = NOT", "lay 1 0 1 = NOT");
        run("the sum of DROPS times K, of DROPS times S", "tube 0 0 9999", "tube 0 0 9999", "band 0 0 0 1", "band 1 0 999 999",
                "fill 0 0 998", "press 1 0 1 = 999", "thick 0 0 = 3819", "over 0 0 1 5000 = 4959");
        run("the largest sums: 999 DROPS of 999 and 999", "tube 0 0 9999", "paint 0 999 999", "fill 0 0 999", "thick 0 0 = 2680",
                "over 0 0 200 10000 = 2708", "over 0 7 1 0 = 125", "seen 0 0 1 = 2680", "hiding 0 100 = 109", "lay 0 0 200 = 1",
                "back 0 7 0 = 2708", "look 0 0 2 = 2708");
        run("and of 999 and 1", "tube 0 0 9999", "paint 0 999 1", "fill 0 0 999", "thick 0 0 = 6", "over 0 0 1 10000 = 9508",
                "hiding 0 0 = 135", "lay 0 0 200 = 1", "back 0 0 0 = 0");
    }

    private static void thick() {
        run("THICK: K 0 sends all back, the darkest 6", "tube 0 0 9", "press 0 0 1", "band 0 0 0 1", "thick 0 0 = 10000",
                "band 0 0 0 999", "thick 0 0 = 10000", "band 0 0 999 1", "thick 0 0 = 6", "band 0 0 1 999", "thick 0 0 = 9563");
        run("ROOT of a square, and of one less than a square", "tube 0 0 9", "press 0 0 1", "band 0 0 1 4", "thick 0 0 = 5000",
                "band 0 0 8 5", "thick 0 0 = 2000", "band 0 0 938 31", "thick 0 0 = 160", "band 0 0 112 155", "thick 0 0 = 3200",
                "band 0 0 481 43", "thick 0 0 = 412", "band 0 0 3 64", "thick 0 0 = 7374", "band 0 0 83 250", "thick 0 0 = 4522");
    }

    /** "ROOT: its whole part", of every K with every tenth S and the edges of S. */
    private static void root() {
        for (int s = 1; s <= 999; s = s < 5 || s > 994 ? s + 1 : s + 10) {
            for (int from = 0; from < 1000; from += 250) {
                PaintBox x = new PaintBox();
                x.tube(0, 0, 1);
                x.press(0, 0, 1);
                for (int k = from; k < from + 250; k++) {
                    x.band(0, 7, k, s);
                    long q = 10000L * k / s;
                    long root = 10000 + q - x.thick(0, 7);
                    long square = q * q + 20000 * q;
                    SHEET.check(root >= 0 && root * root <= square && (root + 1) * (root + 1) > square,
                            "ROOT of K " + k + ", S " + s + " is " + root);
                }
            }
        }
    }

    private static void layers() {
        run("THICKNESS 1 .. 200 over 0 .. 10000, the darkest", "tube 0 0 9", "press 0 0 1", "paint 0 999 1", "over 0 0 1 0 = 0",
                "over 0 0 1 1 = 0", "over 0 0 1 9999 = 9507", "over 0 0 1 10000 = 9508", "over 0 0 2 10000 = 9040",
                "over 0 0 200 10000 = 0", "over 0 0 0 0 = BAD", "over 0 0 201 0 = BAD", "over 0 0 1 -1 = BAD",
                "over 0 0 1 10001 = BAD");
        run("the brightest", "tube 0 0 9", "press 0 0 1", "paint 0 0 1", "over 0 7 1 0 = 250", "over 0 7 1 9999 = 9999",
                "over 0 7 1 10000 = 10000", "over 0 7 200 10000 = 10000", "over 0 7 199 0 = 8322", "over 0 7 200 0 = 8329");
        run("a and s with the rest away: 0 and 249", "tube 0 0 9", "press 0 0 1", "paint 0 1 999", "over 0 0 1 0 = 249",
                "over 0 0 200 0 = 8322", "over 0 0 200 9999 = 9999", "over 0 0 1 10000 = 10000");
        run("the rest away, be it next to nothing or next to one", "tube 0 0 9", "press 0 0 1", "over 0 0 1 9748 = 9505", "band 0 0 1 999",
                "over 0 0 1 7336 = 7354", "over 0 0 1 7919 = 7929", "over 0 0 1 9114 = 9116", "band 0 0 300 100", "over 0 0 1 9219 = 8877",
                "over 0 0 1 9561 = 9207");
        run("what a LAYER would send back: nothing is laid by over", "tube 0 0 9", "press 0 0 1", "over 0 0 200 0 = 2686", "count 7 = 0",
                "drops 0 0 = 1", "back 0 0 0 = 9000");
    }

    private static void hiding() {
        run("HIDING: the least n is 1, by at most d", "tube 0 0 9", "press 0 0 1", "paint 0 0 1", "hiding 0 10000 = 1",
                "hiding 0 9750 = 1", "hiding 0 9749 = 2", "hiding 0 1671 = 200", "hiding 0 1670 = NOT", "hiding 0 0 = NOT");
        run("by 0: where the two are one and the same", "tube 0 0 9", "press 0 0 1", "paint 0 999 1", "hiding 0 1 = 134",
                "hiding 0 0 = 135");
        for (int b = 0; b < 8; b++) {
            run("in each BAND: band " + b + " is the last to hide", "tube 0 0 9", "press 0 0 1", "paint 0 999 1", "hiding 0 5 = 130",
                    "band 0 " + b + " 0 1", "hiding 0 1671 = 200", "hiding 0 1670 = NOT", "hiding 0 5 = NOT", "hiding 0 9749 = 2");
        }
        run("one band at the very last, one too late", "tube 0 0 9", "press 0 0 1", "band 0 0 0 1", "hiding 0 1671 = 200", "band 0 7 1 999",
                "hiding 0 1671 = NOT", "hiding 0 1678 = 200", "hiding 0 1677 = NOT");
        run("an empty pot is NOT even by 10000, a wrong d BAD even then", "tube 0 0 9", "hiding 0 10000 = NOT", "hiding 0 10001 = BAD",
                "hiding 0 -1 = BAD", "press 0 0 1", "hiding 0 10001 = BAD", "hiding 0 -1 = BAD");
    }

    private static void lampsAndEye() {
        for (int b = 0; b < 8; b++) {
            for (int lamp = 0; lamp < 4; lamp++) {
                run("LAMPS 0 .. 3: 10 at first, 0 .. 99", "lamp " + lamp + " " + b + " 99 = 10", "lamp " + lamp + " " + b + " 100 = BAD",
                        "lamp " + lamp + " " + b + " -1 = BAD", "lamp " + lamp + " " + b + " 0 = 99",
                        "lamp " + lamp + " " + b + " 0 = 0", "lamp " + (lamp + 1) % 4 + " " + b + " 10 = 10",
                        "lamp " + lamp + " " + (b + 1) % 8 + " 10 = 10");
            }
            for (int sight = 0; sight < 3; sight++) {
                boolean sees = sight == 0 ? b >= 5 : sight == 1 ? b >= 3 && b <= 5 : b <= 2;
                run("three SIGHTS, 0 .. 99, at first as told", "eye " + sight + " " + b + " 99 = " + (sees ? 1 : 0),
                        "eye " + sight + " " + b + " 100 = BAD", "eye " + sight + " " + b + " -1 = BAD",
                        "eye " + sight + " " + b + " 0 = 99", "eye " + sight + " " + b + " 7 = 0");
            }
        }
        run("no fifth LAMP, no fourth SIGHT, no ninth BAND", "lamp 4 0 1 = BAD", "lamp -1 0 1 = BAD", "lamp 0 8 1 = BAD",
                "lamp 0 -1 1 = BAD", "eye 3 0 1 = BAD", "eye -1 0 1 = BAD", "eye 0 8 1 = BAD", "eye 0 -1 1 = BAD");
    }

    private static void seen() {
        run("the rest away: 7000 by 3, 6500 by 3", "tube 0 0 9", "press 0 0 1",
                "band 0 0 8 5", "band 0 1 9 8", "band 0 2 9 8", "seen 0 0 2 = 2333", "eye 2 0 2", "eye 2 1 0", "eye 2 2 1",
                "seen 0 0 2 = 2166", "lamp 0 2 0", "seen 0 0 2 = 2000");
        run("0 if that is 0: a dark LAMP", "tube 0 0 9", "press 0 0 1", "dark 2", "seen 0 2 0 = 0", "seen 0 2 1 = 0", "seen 0 2 2 = 0",
                "seen 0 1 0 = 2680", "look 0 2 0 = 0", "look 0 1 0 = 9000", "lamp 2 7 1", "look 0 2 0 = 9000", "look 0 2 1 = 0");
        run("0 if that is 0: a blind SIGHT", "tube 0 0 9", "press 0 0 1", "blind 1", "seen 0 0 1 = 0", "seen 0 0 0 = 2680",
                "look 0 0 1 = 0", "eye 1 7 1", "look 0 0 1 = 9000", "seen 0 0 1 = 2680");
        run("0 if that is 0: a LAMP in bands that a SIGHT has not", "dark 0", "lamp 0 0 99", "look 0 0 0 = 0", "look 0 0 1 = 0",
                "look 0 0 2 = 9000");
        run("the largest LAMP by the largest SIGHT", "tube 0 0 9", "press 0 0 1", "paint 0 0 1", "lamp 3 0 99", "lamp 3 1 99",
                "lamp 3 2 99", "lamp 3 3 99", "lamp 3 4 99", "lamp 3 5 99", "lamp 3 6 99", "lamp 3 7 99", "eye 2 0 99", "eye 2 1 99",
                "eye 2 2 99", "eye 2 3 99", "eye 2 4 99", "eye 2 5 99", "eye 2 6 99", "eye 2 7 99", "seen 0 3 2 = 10000",
                "ground 0 10000", "look 0 3 2 = 10000");
        run("one BAND for all SIGHTS", "tube 0 0 9", "paint 0 0 1", "band 0 4 100 100", "press 0 0 1", "lay 0 0 1", "ground 1 1", "dark 0",
                "lamp 0 4 1", "eye 0 4 1", "eye 2 4 99", "look 0 0 0 = 8777", "look 0 0 1 = 8777", "look 0 0 2 = 8777", "look 1 0 0 = 1",
                "look 1 0 2 = 1", "apart 1 0 = 14997", "apart 0 0 = 11331");
        run("an empty pot is NOT even in the dark", "dark 0", "seen 0 0 0 = NOT", "seen 0 4 0 = BAD", "seen 0 0 3 = BAD");
    }

    private static void apart() {
        run("without sign: the tone above or below", "ground 0 5000", "tone 5000 5000 5000", "apart 0 0 = 0", "tone 4999 5001 5000",
                "apart 0 0 = 2", "tone 5001 4999 5001", "apart 0 0 = 3");
        run("at most 30000 APART", "tone 10000 10000 10000", "ground 0 0", "apart 0 0 = 30000", "tone 0 0 0", "apart 0 0 = 0",
                "ground 0 10000", "apart 0 0 = 30000", "dark 1", "apart 0 1 = 0", "tone 10000 10000 10000", "apart 0 1 = 30000");
        run("three numbers, each by its SIGHT", "ground 0 0", "tone 1 20 300", "apart 0 0 = 321", "ground 0 10000", "dark 0",
                "lamp 0 7 1", "apart 0 0 = 10319", "lamp 0 7 0", "lamp 0 4 1", "apart 0 0 = 10281", "lamp 0 4 0", "lamp 0 0 1",
                "apart 0 0 = 9721");
    }

    private static void pots() {
        for (int pot = 0; pot < 10; pot++) {
            run("POTS 0 .. 9, none at first, at most 999", "tube 0 0 9999", "drops " + pot + " -1 = 0", "drops " + pot + " 0 = 0",
                    "fill 0 " + pot + " 990 = 990", "press 0 " + pot + " 10 = FULL", "press 0 " + pot + " 99 = FULL",
                    "drops " + pot + " 0 = 990", "press 0 " + pot + " 9 = 999", "press 0 " + pot + " 1 = FULL",
                    "drops " + pot + " -1 = 999", "ofTube 0 2 = 9000", "ofTube 0 3 = 999", "count 3 = 999");
        }
        run("999 together, of several tubes", "2 times tube 0 0 9999", "fill 0 0 500", "fill 1 0 499 = 999", "press 0 0 1 = FULL",
                "press 1 0 1 = FULL", "drops 0 0 = 500", "drops 0 1 = 499", "drops 0 2 = BAD", "drops 0 -1 = 999", "drops 0 -2 = BAD");
        run("PRESSED 1 .. 99 at a time", "tube 0 0 9999", "press 0 0 0 = BAD", "press 0 0 100 = BAD", "press 0 0 1 = 1",
                "press 0 0 99 = 100", "press 0 0 -1 = BAD", "ofTube 0 2 = 9899");
        run("NOT: the TUBE holds fewer; just as many is fine", "tube 0 0 5", "press 0 0 6 = NOT", "ofTube 0 2 = 5", "drops 0 0 = 0",
                "press 0 0 5 = 5", "ofTube 0 2 = 0", "press 0 0 1 = NOT", "press 0 9 1 = NOT");
        run("all that a tube can hold", "tube 0 0 9999", "fill 0 0 999", "fill 0 1 999", "fill 0 2 999", "fill 0 3 999", "fill 0 4 999",
                "fill 0 5 999", "fill 0 6 999", "fill 0 7 999", "fill 0 8 999", "fill 0 9 999 = 999", "ofTube 0 2 = 9",
                "ofTube 0 3 = 9990", "count 3 = 9990", "count 6 = 9", "press 0 0 10 = NOT", "press 0 0 9 = FULL", "waste 0 = 999",
                "press 0 0 9 = 9", "ofTube 0 2 = 0", "ofTube 0 5 = 999");
    }

    private static void pouring() {
        run("POURED: all of a POT, 999 in the other at most", "2 times tube 0 0 9999", "fill 0 0 500", "fill 1 1 499", "pour 0 1 = 999",
                "drops 0 -1 = 0", "drops 1 0 = 500", "drops 1 1 = 499", "pour 0 1 = NOT", "pour 1 0 = 999", "drops 1 -1 = 0",
                "ofTube 0 3 = 500", "count 3 = 999", "count 5 = 0");
        run("FULL: one more than 999", "2 times tube 0 0 9999", "fill 0 0 500", "fill 1 1 500", "pour 0 1 = FULL", "pour 1 0 = FULL",
                "drops 0 0 = 500", "drops 0 1 = 0", "drops 1 1 = 500", "drops 1 0 = 0");
        run("one and the same is BAD, empty, filled or full", "tube 0 0 9999", "pour 0 0 = BAD", "press 0 0 1", "pour 0 0 = BAD",
                "drops 0 0 = 1", "fill 0 0 998", "pour 0 0 = BAD", "drops 0 0 = 999");
        run("nothing into a full pot is NOT", "tube 0 0 9999", "fill 0 9 999", "pour 0 9 = NOT", "drops 9 0 = 999");
        run("from the first pot into the last and back", "tube 0 0 9", "press 0 0 9", "pour 0 9 = 9", "pour 9 0 = 9", "pour 0 10 = BAD",
                "pour 10 0 = BAD", "pour -1 0 = BAD", "pour 0 -1 = BAD", "drops 0 0 = 9");
    }

    private static void wastedAndLaid() {
        run("WASTED: emptied, lost by TUBE; NOT: nothing in it", "3 times tube 0 0 99", "waste 0 = NOT", "press 0 0 1", "press 2 0 99",
                "waste 0 = 100", "drops 0 -1 = 0", "drops 0 2 = 0", "ofTube 0 5 = 1", "ofTube 1 5 = 0", "ofTube 2 5 = 99",
                "count 5 = 100", "count 3 = 0", "count 4 = 0", "waste 0 = NOT", "count 5 = 100", "waste 10 = BAD", "waste -1 = BAD");
        run("LAID: empty then, laid by TUBE, not lost", "3 times tube 0 0 99", "press 0 9 1", "press 2 9 99", "lay 9 9 1 = 1",
                "drops 9 -1 = 0", "ofTube 0 4 = 1", "ofTube 1 4 = 0", "ofTube 2 4 = 99", "count 4 = 100", "count 5 = 0", "count 3 = 0",
                "count 7 = 1", "lay 9 9 1 = NOT", "count 7 = 1");
        run("the most of one pot", "tube 0 0 9999", "fill 0 0 999", "lay 0 0 1 = 1", "count 4 = 999", "fill 0 0 999", "waste 0 = 999",
                "count 5 = 999", "ofTube 0 4 = 999", "ofTube 0 5 = 999", "ofTube 0 2 = 8001", "count 6 = 8001");
    }

    private static void areas() {
        for (int area = 0; area < 10; area++) {
            run("AREAS 0 .. 9, a GROUND of 9000 at first, 0 .. 10000", "back " + area + " 0 0 = 9000", "ground " + area + " 0 = 9000",
                    "back " + area + " 7 0 = 0", "ground " + area + " 10000 = 0", "back " + area + " 7 99 = 10000",
                    "ground " + area + " 10001 = BAD", "ground " + area + " -1 = BAD", "ground " + area + " 10000 = 10000",
                    "back " + (area + 1) % 10 + " 0 0 = 9000");
            run("at most 10 LAYERS, an eleventh is FULL and changes nothing", Sheet.with(Sheet.tenLayersOn(area), "back " + area + " 0 0 = 7046",
                    "count 7 = 10", "lay 0 " + area + " 1 = NOT", "press 0 0 5 = 5", "lay 0 " + area + " 1 = FULL",
                    "lay 0 " + area + " 200 = FULL", "back " + area + " 0 0 = 7046", "drops 0 0 = 5", "count 4 = 10", "count 7 = 10",
                    "lay 0 " + (area + 1) % 10 + " 1 = 1", "count 7 = 11"));
        }
        run("a GROUND under LAYERS stays: NOT, BAD first", "tube 0 0 9", "ground 2 0 = 9000", "press 0 0 1", "lay 0 2 1 = 1",
                "ground 2 0 = NOT", "ground 2 10000 = NOT", "ground 2 10001 = BAD", "ground 2 -1 = BAD", "back 2 0 0 = 125",
                "ground 3 5 = 9000");
        run("a bare AREA is its GROUND in every year", "ground 5 1234", "back 5 3 99 = 1234", "look 5 0 1 = 1234", "years 99",
                "back 5 3 99 = 1234", "back 5 3 98 = BAD");
        run("THICKNESS 200 is one LAYER of ten", "tube 0 0 99", "press 0 0 1", "lay 0 0 200 = 1", "back 0 0 0 = 2708", "press 0 0 1",
                "lay 0 0 201 = BAD", "lay 0 0 0 = BAD", "drops 0 0 = 1");
    }

    private static void theYear() {
        run("THE YEAR 0 .. 99, 0 at first", "count 1 = 0", "years 0 = BAD", "years 100 = BAD", "years -1 = BAD", "count 1 = 0",
                "years 99 = 99", "years 1 = BAD", "years 99 = BAD", "count 1 = 99");
        run("BAD also beyond 99", "years 1 = 1", "years 99 = BAD", "count 1 = 1", "years 98 = 99", "count 1 = 99");
        run("beyond 99 by one, then just to it", "years 50 = 50", "years 50 = BAD", "years 49 = 99", "years HIGH = BAD", "years LOW = BAD");
        run("back: this YEAR .. 99", "back 0 0 0 = 9000", "back 0 0 99 = 9000", "back 0 0 100 = BAD", "back 0 0 -1 = BAD", "years 40",
                "back 0 0 39 = BAD", "back 0 0 40 = 9000", "back 0 0 0 = BAD", "years 59", "back 0 0 98 = BAD", "back 0 0 99 = 9000",
                "back 0 0 100 = BAD");
    }

    private static void layersFade() {
        run("FADED by z - y YEARS: laid in year 0, faded by 99 in year 99", "tube 0 999 9", "press 0 0 1", "lay 0 0 10",
                "back 0 0 0 = 7046", "look 0 0 0 = 7046", "back 0 0 1 = 9020", "back 0 0 99 = 9020", "years 99", "back 0 0 99 = 9020",
                "look 0 0 0 = 9020");
        run("laid in the last year, not faded in it", "tube 0 999 9", "years 99", "press 0 0 1", "lay 0 0 10", "back 0 0 99 = 7046",
                "look 0 0 0 = 7046", "apart 0 0 = 6138");
        run("each LAYER by its own years", "tube 0 999 9", "press 0 0 1", "lay 0 0 10", "years 1", "press 0 0 1", "lay 0 0 10",
                "back 0 0 1 = 7059", "back 0 0 2 = 9040", "years 1", "look 0 0 0 = 9040");
        run("from the GROUND up: what fades under a LAYER that stays", "tube 0 999 9", "tube 0 0 9", "press 0 0 1", "lay 0 0 10",
                "press 1 0 1", "lay 0 0 10", "back 0 0 0 = 5634", "back 0 0 1 = 7059", "back 0 0 0 = 5634", "years 1",
                "look 0 0 0 = 7059");
        run("K 4, 3, 1, 0: a is 1, 0, 0, 0 and s is 249, 249, 249, 250", "tube 0 1 9", "paint 0 4 996", "ground 0 3000", "press 0 0 1",
                "lay 0 0 200", "back 0 0 0 = 8300", "back 0 0 1 = 8427", "back 0 0 3 = 8427", "back 0 0 4 = 8432", "back 0 0 3 = 8427",
                "back 0 0 0 = 8300", "back 0 0 99 = 8432", "back 0 0 0 = 8300");
        run("a is 249 and s 1, then 0", "tube 0 0 9", "band 0 0 996 4", "press 0 0 1", "lay 0 0 20", "back 0 0 0 = 3279", "band 0 0 999 1",
                "back 0 0 0 = 3276", "band 0 0 996 4", "back 0 0 0 = 3279");
        run("asked for a later year first", "tube 0 999 9", "press 0 0 1", "lay 0 0 10", "back 0 0 99 = 9020",
                "back 0 0 0 = 7046", "back 0 7 0 = 7046", "back 0 7 99 = 9020");
    }

    private static void missed() {
        String[] grey = {"tube 0 999 9", "years 98", "press 0 0 1", "lay 0 0 10", "tone 7046 7046 7046"};
        run("up to 99, the last year counts", Sheet.with(grey, "missed 0 0 0 = 99", "missed 0 0 5921 = 99", "missed 0 0 5922 = NOT"));
        run("from now on: a year that is over does not count", Sheet.with(grey, "years 1", "missed 0 0 0 = 99", "missed 0 0 5921 = 99",
                "missed 0 0 5922 = NOT", "tone 9020 9020 9020", "missed 0 0 0 = NOT"));
        run("now counts, too", Sheet.with(grey, "tone 7046 7046 7045", "missed 0 0 0 = 98", "missed 0 0 1 = 99"));
        run("more than d: just d is not missed", "tone 9000 9000 8990", "missed 0 0 10 = NOT", "missed 0 0 9 = 0", "years 5",
                "missed 0 0 9 = 5", "missed 0 0 0 = 5", "missed 0 0 30000 = NOT");
        run("d 0 .. 30000: the farthest tone is never more than 30000 APART", "tone 10000 10000 10000", "ground 0 0", "missed 0 0 29999 = 0",
                "missed 0 0 30000 = NOT", "missed 0 0 30001 = BAD", "missed 0 0 -1 = BAD", "missed 0 0 LOW = BAD", "missed 0 0 HIGH = BAD");
        run("by the tone told last, kept or not", "tone 0 0 0", "keep", "tone 9000 9000 9000", "missed 0 0 0 = NOT", "tone 9000 9000 10001",
                "missed 0 0 0 = NOT", "tone 0 0 0", "missed 0 0 0 = 0");
        run("at first by 5000 each", "missed 0 0 11999 = 0", "missed 0 0 12000 = NOT");
        run("the first YEAR of several: 3057, 1200, 336, 1518, .. 2865 APART", "tube 0 500 9", "press 0 0 1", "lay 0 0 10",
                "tone 8065 8065 8065", "missed 0 0 1200 = 0", "missed 0 0 3056 = 0", "missed 0 0 3057 = NOT", "years 1",
                "missed 0 0 1199 = 1", "missed 0 0 1200 = 3", "missed 0 0 1518 = 4", "missed 0 0 2864 = 7", "missed 0 0 2865 = NOT");
        run("under the LAMP told", "dark 3", "tone 0 0 0", "missed 0 3 0 = NOT", "missed 0 2 26999 = 0", "missed 0 2 27000 = NOT");
    }

    private static void tones() {
        run("The tone: three numbers, 0 .. 10000; 5000 each at first", "ground 0 0", "apart 0 0 = 15000", "tone 0 0 0 = 1", "apart 0 0 = 0",
                "tone 10000 10000 10000 = 1", "apart 0 0 = 30000", "tone 10001 0 0 = BAD", "tone 0 10001 0 = BAD", "tone 0 0 10001 = BAD",
                "tone -1 0 0 = BAD", "tone 0 -1 0 = BAD", "tone 0 0 -1 = BAD", "apart 0 0 = 30000");
        run("TONES: 0 .. 5, a seventh is FULL", "count 2 = 0", "keep = 1", "keep = 2", "keep = 3", "keep = 4", "keep = 5", "keep = 6",
                "keep = FULL", "keep = FULL", "count 2 = 6", "clear = 6", "count 2 = 0", "clear = 0", "keep = 1", "clear = 1");
        run("the seventh is not kept", "tube 0 0 0", "paint 0 0 1", "tone 10000 10000 10000", "6 times keep = 6", "tone 0 0 0", "keep = FULL",
                "fewest 0 1 0 = 1");
        run("after clear the old TONES are gone", "tube 0 0 0", "paint 0 0 1", "tone 0 0 0", "6 times keep", "clear = 6", "fewest 0 1 30000 = NOT",
                "tone 10000 10000 10000", "keep = 1", "fewest 0 1 0 = 1");
        run("a kept tone stays when another is told", "tube 0 0 0", "paint 0 0 1", "tone 10000 10000 10000", "keep", "tone 0 0 0",
                "fewest 0 1 0 = 1", "keep = 2", "fewest 0 1 0 = NOT", "fewest 0 1 29999 = NOT", "fewest 0 1 30000 = 1");
        run("the tone at first can be kept", "keep = 1", "tube 0 0 0", "fewest 0 1 6960 = 1", "fewest 0 1 6959 = NOT");
        run("clear leaves the tone told", "tone 9000 9000 9000", "keep", "clear = 1", "apart 0 0 = 0");
    }

    private static void counts() {
        run("how many: 0 .. 7", "count -1 = BAD", "count 8 = BAD", "count LOW = BAD", "count HIGH = BAD", "count 0 = 0", "count 7 = 0");
        run("DROPS in all TUBES: twelve full ones", "12 times tube 0 0 9999", "count 6 = 119988", "tube 0 0 9999 = FULL", "count 6 = 119988");
        run("DROPS lost: ten full POTS", "tube 0 0 9999", "fill 0 0 999", "fill 0 1 999", "fill 0 2 999", "fill 0 3 999", "fill 0 4 999",
                "fill 0 5 999", "fill 0 6 999", "fill 0 7 999", "fill 0 8 999", "fill 0 9 999", "waste 0", "waste 1", "waste 2", "waste 3",
                "waste 4", "waste 5", "waste 6", "waste 7", "waste 8", "waste 9 = 999", "count 5 = 9990", "ofTube 0 5 = 9990", "count 3 = 0",
                "count 6 = 9");
        String[] rows = {"tube 0 0 9999"};
        for (int area = 0; area < 10; area++) {
            for (int i = 1; i <= 10; i++) {
                rows = Sheet.with(rows, "press 0 " + area + " 99", "lay " + area + " " + area + " 1 = " + i);
            }
        }
        run("LAYERS on all AREAS: ten of ten; DROPS laid: 9900", Sheet.with(rows, "count 7 = 100", "count 4 = 9900", "ofTube 0 4 = 9900",
                "count 6 = 99", "press 0 0 1", "lay 0 0 1 = FULL", "lay 0 4 1 = FULL", "lay 0 9 1 = FULL", "count 7 = 100", "count 4 = 9900",
                "count 3 = 1", "back 9 7 0 = 7046"));
    }
}
