import java.io.IOException;
import java.nio.file.Files;
import java.nio.file.Path;
import java.util.ArrayList;
import java.util.List;
import java.util.regex.Matcher;
import java.util.regex.Pattern;

/** The run that README.md shows, and that it is the one which stands here. */
public final class ReadmeTests extends Checks {
    private static final Pattern SHOWN = Pattern.compile("    (f\\..*\\));\\s+// (-?\\d+)(?::.*)?");
    private static final Pattern TESTED = Pattern.compile("        is\\((-?\\d+), (f\\..*\\))\\);");

    public static void main(String[] args) throws IOException {
        about = "README.md, its run";
        run();
        about = "README.md, its text";
        List<String> shown = linesOf("README.md", SHOWN, 2, 1);
        is(18, shown.size());
        is(linesOf("src/test/java/ReadmeTests.java", TESTED, 1, 2), shown);
        end();
    }

    private static void run() {
        ViewFoundry f = new ViewFoundry();
        is(0, f.addView('t', 's', 'a', 10, 1, 5));
        is(0, f.putRow(0, 1, 3, 42));
        is(1, f.putMark(0, 12));
        is(2, f.putRow(0, 1, 4, -2));
        is(0, f.putMark(1, 999));
        is(0, f.putMark(2, 999));
        is(1, f.read(1, 20));
        is(1, f.read(2, 20));
        is(2, f.read(0, 2));
        is(42, f.valueOf(0, 1, 0, 10));
        is(1, f.cut());
        is(1, f.complete());
        is(1, f.read(0, 20));
        is(40, f.valueOf(0, 1, 0, 10));
        is(2, f.waiting());
        is(2, f.crash());
        is(2, f.place(0));
        is(42, f.valueOf(0, 1, 0, 10));
    }

    private static List<String> linesOf(String file, Pattern form, int answer, int call) throws IOException {
        List<String> lines = new ArrayList<>();
        for (String line : Files.readAllLines(Path.of(file))) {
            Matcher matcher = form.matcher(line);
            if (matcher.matches()) {
                lines.add(matcher.group(answer) + " " + matcher.group(call));
            }
        }
        return lines;
    }
}
