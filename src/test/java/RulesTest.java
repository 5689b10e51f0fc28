import java.lang.reflect.Constructor;
import java.lang.reflect.Field;
import java.lang.reflect.Method;
import java.lang.reflect.Modifier;
import java.nio.file.Files;
import java.nio.file.Path;
import java.util.ArrayList;
import java.util.Arrays;
import java.util.List;
import java.util.TreeSet;

/** The rules of LANGUAGE.md that a machine can look after: the face, the words that are barred, the sizes. */
public final class RulesTest {
    private static final String[] FACE = {
        "tube 3", "band 4", "ofTube 2", "row 4", "lamp 3", "eye 3", "years 1", "press 3", "pour 2", "waste 1", "drops 2",
        "thick 2", "seen 3", "over 4", "hiding 2", "ground 2", "lay 3", "back 3", "look 3", "missed 3", "tone 3",
        "apart 2", "match 3", "matched 1", "price 0", "glaze 3", "glazed 1", "keep 0", "clear 0", "fewest 3", "count 1"};
    private static final String[] BARRED = {
        "\\bthrow\\b", "\\bthrows\\b", "\\btry\\b", "\\bcatch\\b", "\\bfinally\\b", "\\bsynchronized\\b", "\\bassert\\b",
        "\\bvolatile\\b", "->", "::", "@", "\\bpackage\\b", "Exact\\b", "\\bdouble\\b", "\\bfloat\\b", "\\bObject\\b",
        "\\bequals\\b", "\\bhashCode\\b", "\\btoString\\b", "\\bprotected\\b", "\\bsqrt\\b"};
    private static final int MOST_LINES = 60;
    private static int wrong = 0;

    private static void check(boolean holds, String what) {
        if (!holds) {
            wrong++;
            System.out.println("not as the rules say: " + what);
        }
    }

    public static void main(String[] args) throws Exception {
        face();
        classes();
        List<String> lines = Files.readAllLines(Path.of("src/main/java/PaintBox.java"));
        words(lines);
        lengths(lines);
        System.out.println(wrong == 0 ? "RulesTest: all rules hold" : "RulesTest: " + wrong + " broken");
        if (wrong != 0) {
            System.exit(1);
        }
    }

    private static void face() {
        Class<?> box = PaintBox.class;
        check(Modifier.isPublic(box.getModifiers()) && Modifier.isFinal(box.getModifiers()), "a public final class");
        TreeSet<String> open = new TreeSet<>();
        for (Method m : box.getDeclaredMethods()) {
            if (!Modifier.isPrivate(m.getModifiers()) && !m.isSynthetic()) {
                open.add(m.getName() + " " + m.getParameterCount());
                check(Modifier.isPublic(m.getModifiers()) && !Modifier.isStatic(m.getModifiers()), m + " is public");
                check(m.getReturnType() == int.class, m + " answers an int");
                check(Arrays.stream(m.getParameterTypes()).allMatch(t -> t == int.class), m + " takes ints");
            }
        }
        check(open.equals(new TreeSet<>(List.of(FACE))), "the methods are those of the document: " + open);
        TreeSet<String> fields = new TreeSet<>();
        for (Field f : box.getDeclaredFields()) {
            if (!Modifier.isPrivate(f.getModifiers())) {
                fields.add(f.getName());
            }
        }
        check(fields.equals(new TreeSet<>(List.of("BAD", "NOT", "FULL"))), "the constants are those of the document");
        check(PaintBox.BAD == -1 && PaintBox.NOT == -2 && PaintBox.FULL == -3, "the constants' values");
        Constructor<?>[] made = box.getDeclaredConstructors();
        check(made.length == 1 && Modifier.isPublic(made[0].getModifiers()) && made[0].getParameterCount() == 0,
                "one public constructor");
    }

    private static void classes() {
        List<Class<?>> all = new ArrayList<>(List.of(PaintBox.class.getDeclaredClasses()));
        check(all.size() < 12, "some twelve classes");
        all.add(PaintBox.class);
        TreeSet<String> open = new TreeSet<>();
        for (String call : FACE) {
            open.add(call.substring(0, call.indexOf(' ')));
        }
        for (Class<?> c : all) {
            check(c == PaintBox.class || Modifier.isStatic(c.getModifiers()), c + " is static");
            int own = 0;
            for (Field f : c.getDeclaredFields()) {
                boolean isStatic = Modifier.isStatic(f.getModifiers());
                check(!isStatic || Modifier.isFinal(f.getModifiers()), f + " is final");
                own += isStatic ? 0 : 1;
            }
            check(own <= 20, c + " has some twenty fields");
            for (Method m : c.getDeclaredMethods()) {
                check(m.getParameterCount() <= 7, m + " takes at most seven");
                check(Modifier.isPublic(m.getModifiers()) || !open.contains(m.getName()), m + " has a name of the face");
            }
        }
    }

    private static void words(List<String> lines) {
        boolean comment = false;
        for (int i = 0; i < lines.size(); i++) {
            String line = lines.get(i);
            comment |= line.strip().startsWith("/*");
            if (!comment && !line.strip().startsWith("//")) {
                for (String word : BARRED) {
                    check(!java.util.regex.Pattern.compile(word).matcher(line).find(), word + " in line " + (i + 1));
                }
                check(!line.contains("import ") || line.equals("import java.util.Arrays;"), "import in line " + (i + 1));
            }
            comment &= !line.contains("*/");
        }
    }

    /** Methods stand at four or eight blanks and end with a brace at the same place. */
    private static void lengths(List<String> lines) {
        for (String in : new String[] {"    ", "        "}) {
            int from = -1;
            for (int i = 0; i < lines.size(); i++) {
                String line = lines.get(i);
                if (line.startsWith(in) && line.length() > in.length() && line.charAt(in.length()) != ' ') {
                    String rest = line.substring(in.length());
                    if (rest.endsWith(") {") && !rest.startsWith("for") && !rest.startsWith("if") && !rest.startsWith("switch")) {
                        from = i;
                    } else if (rest.equals("}") && from >= 0) {
                        check(i - from < MOST_LINES, "the method at line " + (from + 1) + " is long");
                        from = -1;
                    }
                }
            }
        }
    }
}
