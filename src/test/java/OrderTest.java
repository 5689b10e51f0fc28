/**
 * "Answers, of several the one named first": where BAD, NOT and FULL are due at once BAD is answered, then NOT. And
 * "what is answered so changes nothing": after each run of refused calls the box does what was refused before.
 */
public final class OrderTest {
    private static final Sheet SHEET = new Sheet("OrderTest");

    private OrderTest() {
    }

    private static void run(String sentence, String... rows) {
        SHEET.run(sentence, rows);
    }

    public static void main(String[] args) {
        tubes();
        pressing();
        pouring();
        emptyPots();
        picture();
        searches();
        beforeAny();
        SHEET.end();
    }

    private static void tubes() {
        run("tube: BAD before FULL", "12 times tube 1 1 1 = 11", "tube -1 0 0 = BAD", "tube 1000 0 0 = BAD", "tube 0 -1 0 = BAD",
                "tube 0 1000 0 = BAD", "tube 0 0 -1 = BAD", "tube 0 0 10000 = BAD", "tube LOW HIGH LOW = BAD", "tube 0 0 0 = FULL",
                "count 0 = 12", "count 6 = 12");
        run("no tubes: BAD whatever else", "band 0 0 1 1 = BAD", "ofTube 0 0 = BAD", "row 0 0 0 0 = BAD", "press 0 0 1 = BAD",
                "drops 0 0 = BAD", "match 0 1 1 = BAD", "matched 0 = BAD", "glaze 0 1 0 = BAD", "drops 0 -1 = 0");
    }

    private static void pressing() {
        String[] empty = {"tube 0 0 0", "tube 0 0 9999", "fill 1 0 999"};
        run("press: BAD before NOT", Sheet.with(empty, "press -1 1 1 = BAD", "press 2 1 1 = BAD", "press 0 -1 1 = BAD",
                "press 0 10 1 = BAD", "press 0 1 0 = BAD", "press 0 1 100 = BAD", "press 0 1 1 = NOT"));
        run("press: BAD before FULL", Sheet.with(empty, "press 2 0 1 = BAD", "press 1 0 0 = BAD", "press 1 0 100 = BAD",
                "press 1 0 HIGH = BAD", "press 1 0 LOW = BAD", "press 1 0 1 = FULL"));
        run("press: NOT before FULL, and BAD before both", Sheet.with(empty, "press 0 0 1 = NOT", "press 0 0 99 = NOT",
                "press 0 0 100 = BAD", "press 0 0 0 = BAD", "drops 0 -1 = 999", "ofTube 1 2 = 9000", "waste 0 = 999",
                "press 1 0 99 = 99", "press 0 0 1 = NOT"));
        run("NOT takes nothing from the tube, FULL neither", "tube 0 0 98", "tube 0 0 9999", "press 0 0 99 = NOT", "press 0 0 98 = 98",
                "fill 1 0 900 = 998", "press 1 0 2 = FULL", "ofTube 1 2 = 9099", "press 1 0 1 = 999", "ofTube 1 2 = 9098");
    }

    private static void pouring() {
        run("pour: BAD before NOT", "pour 0 0 = BAD", "pour 9 9 = BAD", "pour 0 10 = BAD", "pour 10 0 = BAD", "pour 10 10 = BAD",
                "pour -1 -1 = BAD", "pour 0 9 = NOT");
        run("pour: BAD before FULL, NOT before FULL", "tube 0 0 9999", "fill 0 0 999", "fill 0 1 999", "pour 0 0 = BAD", "pour 0 10 = BAD",
                "pour 0 1 = FULL", "pour 2 0 = NOT", "drops 0 0 = 999", "drops 1 0 = 999", "waste 1 = 999", "pour 0 1 = 999");
        run("a pour that is refused keeps the first pot's DROPS by TUBE", "2 times tube 0 0 999", "fill 0 0 400", "fill 1 0 400",
                "fill 1 1 200", "pour 0 1 = FULL", "drops 0 0 = 400", "drops 0 1 = 400", "drops 1 0 = 0", "drops 1 1 = 200",
                "waste 1 = 200", "pour 0 1 = 800", "drops 1 0 = 400", "drops 1 1 = 400");
        run("waste: BAD, then NOT", "waste -1 = BAD", "waste 10 = BAD", "waste LOW = BAD", "waste HIGH = BAD", "waste 9 = NOT", "count 5 = 0");
    }

    private static void emptyPots() {
        run("thick: BAD before NOT", "thick 0 -1 = BAD", "thick 0 8 = BAD", "thick -1 0 = BAD", "thick 10 0 = BAD", "thick 9 7 = NOT");
        run("seen: BAD before NOT", "seen 0 -1 0 = BAD", "seen 0 4 0 = BAD", "seen 0 0 -1 = BAD", "seen 0 0 3 = BAD", "seen 10 0 0 = BAD",
                "seen 9 3 2 = NOT");
        run("over: BAD before NOT", "over 0 -1 1 0 = BAD", "over 0 8 1 0 = BAD", "over 0 0 0 0 = BAD", "over 0 0 201 0 = BAD",
                "over 0 0 1 -1 = BAD", "over 0 0 1 10001 = BAD", "over 10 0 1 0 = BAD", "over 9 7 200 10000 = NOT");
        run("hiding: BAD before NOT, empty or none", "hiding 0 -1 = BAD", "hiding 0 10001 = BAD", "hiding 10 0 = BAD", "hiding 9 10000 = NOT",
                "tube 0 0 1", "press 0 0 1", "hiding 0 -1 = BAD", "hiding 0 0 = NOT", "drops 0 0 = 1");
    }

    private static void picture() {
        run("ground: BAD before NOT", "tube 0 0 9", "press 0 0 1", "lay 0 9 1", "ground 9 -1 = BAD", "ground 9 10001 = BAD",
                "ground 10 0 = BAD", "ground -1 0 = BAD", "ground 9 9000 = NOT", "back 9 0 0 = 8777");
        run("lay: BAD before NOT", "lay 0 0 0 = BAD", "lay 0 0 201 = BAD", "lay 0 10 1 = BAD", "lay 0 -1 1 = BAD", "lay 10 0 1 = BAD",
                "lay -1 0 1 = BAD", "lay 9 9 200 = NOT", "count 7 = 0");
        run("lay: NOT before FULL, BAD before both", Sheet.with(Sheet.tenLayersOn(3), "lay 0 3 1 = NOT", "lay 0 3 0 = BAD",
                "lay 0 3 201 = BAD", "press 0 0 1", "lay 0 3 0 = BAD", "lay 0 3 201 = BAD", "lay 0 3 1 = FULL", "lay 0 4 1 = 1"));
        run("missed: BAD before NOT", "missed 0 0 30000 = NOT", "missed 0 4 30000 = BAD", "missed 0 -1 30000 = BAD", "missed 10 0 30000 = BAD",
                "missed -1 0 30000 = BAD", "missed 0 0 30001 = BAD", "missed 0 0 -1 = BAD");
    }

    private static void searches() {
        run("fewest: BAD before NOT, no TONES and no TUBES", "fewest 4 1 0 = BAD", "fewest -1 1 0 = BAD", "fewest 0 0 0 = BAD",
                "fewest 0 7 0 = BAD", "fewest 0 1 -1 = BAD", "fewest 0 1 30001 = BAD", "fewest 3 6 30000 = NOT");
        run("fewest: no TUBES is NOT", "keep", "fewest 0 1 30000 = NOT", "fewest 0 7 30000 = BAD", "tube 0 0 0", "fewest 0 1 30000 = 1");
        run("fewest: no TONES is NOT", "tube 0 0 0", "fewest 0 1 30000 = NOT", "fewest 0 7 30000 = BAD", "keep", "fewest 0 1 30000 = 1",
                "clear", "fewest 0 1 30000 = NOT");
        run("fewest: none is NOT", "tube 0 0 0", "keep", "fewest 0 6 6959 = NOT", "fewest 0 7 6959 = BAD", "fewest 0 0 6959 = BAD",
                "fewest 4 6 6959 = BAD", "fewest 0 6 6960 = 1");
        run("match: set of TUBES that there are, one at least", "2 times tube 1 0 0", "match 0 0 1 = BAD", "match 0 4 1 = BAD",
                "match 0 5 1 = BAD", "match 0 -1 1 = BAD", "match 0 LOW 1 = BAD", "match 0 HIGH 1 = BAD", "matched 0 = BAD",
                "match 0 3 1 = 6960", "matched 0 = 1");
        run("match: twelve TUBES, no thirteenth", "12 times tube 1 0 0", "match 0 4096 1 = BAD", "match 0 8191 1 = BAD", "match 0 4095 1 = 6960",
                "match 0 2048 8 = 6960", "matched 11 = 8", "matched 0 = 0", "matched 12 = BAD");
        run("glaze: set as match()", "2 times tube 1 0 0", "glaze 0 0 0 = BAD", "glaze 0 4 0 = BAD", "glaze 0 5 0 = BAD", "glaze 0 -1 0 = BAD",
                "glaze 0 LOW 0 = BAD", "glaze 0 HIGH 0 = BAD", "glaze 0 3 -1 = BAD", "glaze 0 3 10001 = BAD", "glaze 4 3 0 = BAD",
                "tone 0 0 0", "glaze 0 3 0 = 0", "glaze 0 3 10000 = 24555", "glazed 0 = 4", "glazed 1 = 14");
    }

    private static void beforeAny() {
        run("matched, price and glazed before any are BAD", "tube 3 0 0", "matched 0 = BAD", "price = BAD", "glazed 0 = BAD", "match 0 1 9 = BAD",
                "glaze 0 2 0 = BAD", "matched 0 = BAD", "price = BAD", "glazed 0 = BAD");
        run("a match is no glaze and a glaze no match", "tube 3 0 0", "match 0 1 2 = 6960", "glazed 0 = BAD", "price = 6", "matched 0 = 2");
        run("nor a glaze a match", "tube 3 0 0", "tone 0 0 0", "glaze 0 1 10000 = 27126", "matched 0 = BAD", "price = BAD", "glazed 0 = 4",
                "glazed 1 = BAD");
        run("the latest match() that was not refused", "tube 3 0 0", "tube 1 0 0", "match 0 1 2 = 6960", "match 0 2 0 = BAD", "match 4 2 1 = BAD",
                "match 0 4 1 = BAD", "matched 0 = 2", "matched 1 = 0", "price = 6", "match 0 2 5 = 6960", "matched 0 = 0", "matched 1 = 5",
                "price = 5");
        run("the latest glaze() that was not refused", "tube 3 0 0", "tone 0 0 0", "glaze 0 1 10000", "glaze 0 1 10001 = BAD",
                "glaze 0 2 10000 = BAD", "glazed 0 = 4", "glaze 0 1 0 = 0", "glazed 0 = BAD", "glazed -1 = BAD", "glazed 1 = BAD");
        run("what was found stays as it was, whatever changes then", "tube 3 0 9", "match 0 1 2", "tone 0 0 0", "glaze 0 1 10000", "band 0 0 0 1",
                "tone 1 2 3", "press 0 0 9", "years 9", "lamp 0 0 0", "tube 1 0 0", "matched 0 = 2", "matched 1 = 0", "matched 2 = BAD",
                "price = 6", "glazed 0 = 4");
    }
}
