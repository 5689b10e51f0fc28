import java.util.List;

/**
 * A box brought into a state that edges are tried in, and what the bounds of some numbers are there. Calls on
 * fresh boxes of one scene must answer alike, so that a call can be looked at for the traces it leaves.
 */
final class Scene {
    /** Nothing there yet: most calls are refused. */
    static final Scene NEW = new Scene("new", 0, 0, 0, false);

    /** Something of everything, and room for more. */
    static final Scene STUDIO = new Scene("studio", 5, 7, 2, true,
            "tube 3 20 500", "tube 1 500 500", "tube 3 0 500", "tube 9 999 500", "tube 2 1 500",
            "paint 0 0 900", "paint 1 900 5", "band 2 0 700 30", "band 2 1 600 40", "band 3 6 900 10", "band 4 4 5 900",
            "press 0 0 7", "press 1 0 2", "lay 0 0 12", "years 3", "press 2 0 5", "lay 0 0 3",
            "press 3 1 4", "lay 1 9 200", "years 4", "press 0 0 9", "press 4 0 1", "press 1 1 20", "press 2 9 30",
            "press 3 8 6", "waste 8", "ground 4 100", "ground 3 0", "lamp 1 0 99", "lamp 2 7 0", "eye 1 0 2",
            "tone 1000 2000 3000", "keep", "tone 9000 200 4000", "keep", "tone 4000 3000 6000", "match 0 31 5",
            "tone 4823 4823 4823", "glaze 0 3 5000", "tone 4000 3000 6000");

    /**
     * No room for more: twelve tubes, tube 1 pressed empty, pots 0 and 9 full, area 0 with ten layers, six tones,
     * the last year.
     */
    static final Scene CRAMMED = new Scene("crammed", 12, 99, 0, true,
            "tube 999 999 9999", "tube 0 0 99", "10 times tube 5 30 9999",
            "band 0 0 900 1", "band 1 1 1 900", "band 2 2 500 30", "band 3 3 0 999", "band 11 7 999 1", "band 10 5 30 700",
            "press 0 0 1", "press 2 1 3", "5 times press 3 2 9", "lay 2 0 7", "lay 1 0 50", "lay 0 9 200", "years 98",
            "press 3 0 1", "lay 0 0 3", "press 4 0 1", "lay 0 0 1", "press 5 0 1", "lay 0 0 2", "press 6 0 1", "lay 0 0 9",
            "press 7 0 1", "lay 0 0 1", "press 8 0 1", "lay 0 0 1", "press 9 0 1", "lay 0 0 1", "years 1",
            "press 10 0 1", "lay 0 0 1", "press 1 1 99", "fill 0 0 999", "fill 11 9 999", "press 2 8 5", "waste 8",
            "tone 0 0 0", "keep", "tone 10000 0 500", "keep", "tone 10000 10000 10000", "4 times keep",
            "match 0 2057 3", "tone 9000 9000 9000", "glaze 0 2049 9000");

    static final List<Scene> ALL = List.of(NEW, STUDIO, CRAMMED);

    final String name;
    final int tubes;
    final int year;
    /** LAYERS of the latest glaze. */
    final int glazes;
    /** Whether a match and a glaze were asked for. */
    final boolean searched;
    private final String[] rows;

    private Scene(String name, int tubes, int year, int glazes, boolean searched, String... rows) {
        this.name = name;
        this.tubes = tubes;
        this.year = year;
        this.glazes = glazes;
        this.searched = searched;
        this.rows = rows;
    }

    PaintBox box() {
        PaintBox box = new PaintBox();
        fill(box);
        return box;
    }

    PlainBox plain() {
        PlainBox box = new PlainBox();
        fill(box);
        return box;
    }

    private void fill(Object box) {
        for (String row : rows) {
            for (String call : Sheet.spelledOut(row)) {
                Sheet.ask(box, call);
            }
        }
    }

    int calls() {
        int calls = 0;
        for (String row : rows) {
            calls += Sheet.spelledOut(row).size();
        }
        return calls;
    }
}
