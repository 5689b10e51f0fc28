import java.io.IOException;
import java.lang.reflect.Method;
import java.lang.reflect.Modifier;
import java.nio.file.DirectoryStream;
import java.nio.file.Files;
import java.nio.file.Path;
import java.util.ArrayList;
import java.util.List;
import java.util.TreeSet;
import java.util.regex.Matcher;
import java.util.regex.Pattern;

/** README.md as it stands: its example answers as it says, its table has every call, and it names every test. */
public final class ReadmeTest {
    private static final Sheet SHEET = new Sheet("ReadmeTest");
    private static final Pattern EXAMPLE = Pattern.compile("box\\.(\\w+)\\((.*)\\);\\s+// (\\S+).*");
    private static final Pattern TABLE_ROW = Pattern.compile("\\| `(\\w+)\\(([^)]*)\\)` \\|.*");

    private ReadmeTest() {
    }

    public static void main(String[] args) throws IOException {
        List<String> lines = Files.readAllLines(Path.of("README.md"));
        example(lines);
        table(lines);
        tests(String.join("\n", lines));
        SHEET.end();
    }

    private static void example(List<String> lines) {
        List<String> rows = new ArrayList<>();
        for (String line : lines) {
            Matcher m = EXAMPLE.matcher(line);
            if (m.matches()) {
                rows.add((m.group(1) + " " + m.group(2).replace(",", "")).strip() + " = " + m.group(3));
            }
            SHEET.check(m.matches() || !line.contains("box."), "an example without its answer: " + line);
        }
        SHEET.check(!rows.isEmpty(), "there is no example");
        SHEET.run("the example", rows.toArray(new String[0]));
    }

    private static void table(List<String> lines) {
        TreeSet<String> told = new TreeSet<>();
        for (String line : lines) {
            Matcher m = TABLE_ROW.matcher(line);
            if (m.matches()) {
                int taken = m.group(2).isEmpty() ? 0 : m.group(2).split(", ").length;
                SHEET.check(told.add(m.group(1) + " " + taken), "told twice: " + m.group(1));
            }
        }
        TreeSet<String> due = new TreeSet<>(List.of("PaintBox 0"));
        for (Method m : PaintBox.class.getDeclaredMethods()) {
            if (Modifier.isPublic(m.getModifiers())) {
                due.add(m.getName() + " " + m.getParameterCount());
            }
        }
        SHEET.check(told.equals(due), "the table has " + told + ", due is " + due);
    }

    private static void tests(String text) throws IOException {
        try (DirectoryStream<Path> files = Files.newDirectoryStream(Path.of("src/test/java"), "*Test.java")) {
            for (Path file : files) {
                String name = file.getFileName().toString().replace(".java", "");
                SHEET.check(text.contains("- `" + name + "`:"), name + " is not told of");
            }
        }
    }
}
