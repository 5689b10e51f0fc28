/**
 * All that a PaintBox or a PlainBox shows, in parts, since one box has not calls enough for the whole. A box is used
 * up by showing a part of it.
 */
final class Shown {
    static final int PARTS = 3;

    private final Object box;
    private final StringBuilder answers = new StringBuilder();

    private Shown(Object box) {
        this.box = box;
    }

    static String part(Object box, int part) {
        Shown shown = new Shown(box);
        switch (part) {
            case 0: shown.tubes(); break;
            case 1: shown.potsAndAreas(); break;
            default: shown.lightAndTones(); break;
        }
        return shown.answers.toString();
    }

    private int tell(String call, int... told) {
        int answer = Face.ask(box, call, told);
        answers.append(answer).append(' ');
        return answer;
    }

    private void tubes() {
        int tubes = tell("count", 0);
        for (int what = 1; what < 8; what++) {
            tell("count", what);
        }
        tell("price");
        for (int i = 0; i < 4; i++) {
            tell("glazed", i);
        }
        for (int t = 0; t < tubes; t++) {
            tell("matched", t);
            for (int what = 0; what < 6; what++) {
                tell("ofTube", t, what);
            }
            for (int b = 0; b < 8; b++) {
                tell("row", t, b, 0, 0);
                tell("row", t, b, 0, 1);
            }
        }
    }

    private void potsAndAreas() {
        int tubes = tell("count", 0);
        int year = tell("count", 1);
        for (int i = 0; i < 10; i++) {
            for (int t = -1; t < tubes; t++) {
                tell("drops", i, t);
            }
            for (int b = 0; b < 8; b++) {
                tell("back", i, b, year);
            }
            tell("back", i, 6, 99);
        }
    }

    /** The tone's numbers and the kept ones show in how far apart things are, by one sight alone at a time. */
    private void lightAndTones() {
        for (int d = 1; d <= 30000; d *= 2) {
            tell("fewest", 0, 1, d);
        }
        for (int lamp = 0; lamp < 4; lamp++) {
            for (int b = 0; b < 8; b++) {
                tell("lamp", lamp, b, 10);
            }
        }
        for (int sight = 0; sight < 3; sight++) {
            for (int b = 0; b < 8; b++) {
                tell("eye", sight, b, 0);
            }
        }
        for (int area = 0; area < 10; area++) {
            tell("ground", area, 0);
        }
        for (int sight = 0; sight < 3; sight++) {
            tell("eye", sight, 0, 1);
            tell("apart", 5, 0);
            tell("ground", 5, 10000);
            tell("apart", 5, 0);
            tell("ground", 5, 0);
            tell("eye", sight, 0, 0);
        }
    }
}
