import java.util.ArrayList;
import java.util.Arrays;
import java.util.List;

/**
 * A test's runs of calls, written as text: "press 0 0 3 = 3" asks and holds the answer against the one that is
 * due, "press 0 0 3" only asks. Each run has a box of its own, and PlainBox goes through it too, so that what
 * RandomRunsTest trusts in is held against numbers worked out by hand.
 *
 * <p>Beside the document's calls a row may say "paint TUBE K S" (all BANDS of a tube), "fill TUBE POT N"
 * (pressed 99 at a time), "dark LAMP" and "blind SIGHT" (0 in all BANDS), or "N times" ahead of a call.
 */
final class Sheet {
    private final String test;
    private int wrong = 0;

    Sheet(String test) {
        this.test = test;
    }

    void run(String sentence, String... rows) {
        go(new PaintBox(), sentence, rows);
        go(new PlainBox(), sentence + " (PlainBox)", rows);
    }

    void check(boolean holds, String what) {
        if (!holds) {
            wrong++;
            System.out.println(test + ": " + what);
        }
    }

    void end() {
        System.out.println(test + (wrong == 0 ? ": all answers are as due" : ": " + wrong + " wrong"));
        if (wrong != 0) {
            System.exit(1);
        }
    }

    /** A run that goes on from what several begin with. */
    static String[] with(String[] first, String... then) {
        String[] all = Arrays.copyOf(first, first.length + then.length);
        System.arraycopy(then, 0, all, first.length, then.length);
        return all;
    }

    static String[] tenLayersOn(int area) {
        String[] rows = {"tube 0 0 99"};
        for (int i = 1; i <= 10; i++) {
            rows = with(rows, "press 0 0 1", "lay 0 " + area + " 1 = " + i);
        }
        return rows;
    }

    private void go(Object box, String sentence, String[] rows) {
        int calls = 0;
        for (String row : rows) {
            String[] parts = row.split(" = ");
            int answer = 0;
            for (String call : spelledOut(parts[0])) {
                answer = ask(box, call);
                calls++;
            }
            if (parts.length > 1) {
                int due = number(parts[1]);
                check(answer == due, sentence + ": " + parts[0] + " answered " + answer + ", due is " + due);
            }
        }
        check(calls <= Face.MOST_CALLS, sentence + ": more calls than the document tells of");
    }

    /** The calls that a row stands for, one by one. */
    static List<String> spelledOut(String row) {
        String[] w = row.split(" ");
        List<String> calls = new ArrayList<>();
        if (w.length > 2 && w[1].equals("times")) {
            for (int i = 0; i < number(w[0]); i++) {
                calls.addAll(spelledOut(String.join(" ", Arrays.copyOfRange(w, 2, w.length))));
            }
        } else if (w[0].equals("fill")) {
            for (int left = number(w[3]); left > 0; left -= 99) {
                calls.add("press " + w[1] + " " + w[2] + " " + Math.min(99, left));
            }
        } else if (List.of("paint", "dark", "blind").contains(w[0])) {
            for (int b = 0; b < 8; b++) {
                calls.add(w[0].equals("paint") ? "band " + w[1] + " " + b + " " + w[2] + " " + w[3]
                        : (w[0].equals("dark") ? "lamp " : "eye ") + w[1] + " " + b + " 0");
            }
        } else {
            calls.add(row);
        }
        return calls;
    }

    static int ask(Object box, String call) {
        String[] w = call.split(" ");
        int[] told = new int[w.length - 1];
        for (int i = 0; i < told.length; i++) {
            told[i] = number(w[i + 1]);
        }
        return Face.ask(box, w[0], told);
    }

    private static int number(String word) {
        switch (word) {
            case "BAD": return Face.BAD;
            case "NOT": return Face.NOT;
            case "FULL": return Face.FULL;
            case "LOW": return Face.LOW;
            case "HIGH": return Face.HIGH;
            default: return Integer.parseInt(word);
        }
    }
}
