import java.io.IOException;
import java.nio.file.Files;
import java.nio.file.Paths;
import java.util.ArrayList;
import java.util.List;
import java.util.regex.Matcher;
import java.util.regex.Pattern;

/**
 * README.md names each method of the face, with what it is for, and its example answers as it says; the
 * class has the headings that the document puts ahead of its methods.
 */
public final class ReadmeTest {
    private static final Checks CHECKS = new Checks();
    /** The document's headings, each with the methods behind it. */
    private static final String[][] HEADINGS = {
        {"sacks", "addSack(damp)", "put(sack, size, many)", "dry(sack, hours)", "sack(sack, what)"},
        {"the tower", "setWind(strength)", "blow(sack)", "sweep(chamber, sack)", "chamber(chamber, what)",
            "bestWind(sack, chamber, size)"},
        {"ticks", "addTick(columns, rows, density)", "sew(tick, square, direction, isSewn)",
            "fill(tick, square, chamber, many)", "shift(tick, from, to, many)", "square(tick, square, what)",
            "tick(tick, what)"},
        {"nights", "pass(nights)", "count(what)", "foresee(tick, nights, what)", "lasts(tick, warmth)",
            "advise(tick, nights)", "filled()", "digest()"},
    };
    private static final String[] EXAMPLE = {
        "FeatherBeds beds = new FeatherBeds();",
        "int sack = beds.addSack(0);",
        "beds.put(sack, 0, 100);",
        "beds.setWind(1);",
        "beds.blow(sack);",
        "int tick = beds.addTick(2, 1, 5);",
        "beds.fill(tick, 0, 3, 60);",
        "beds.pass(10);",
        "System.out.println(beds.tick(tick, 5));",
    };
    private static final Pattern ROW = Pattern.compile("\\| `([^`]*)` \\| (.*) \\|");
    private static final Pattern METHOD = Pattern.compile("    public \\w+ (\\w+)\\(([^)]*)\\).*");

    public static void main(String[] args) throws IOException {
        headingsOfTheDocument();
        List<String> page = Files.readAllLines(Paths.get("README.md"));
        List<String> source = Files.readAllLines(Paths.get("src", "main", "java", "FeatherBeds.java"));
        for (String[] heading : HEADINGS) {
            methodsOfThePage(page, heading);
            methodsOfTheClass(source, heading);
        }
        CHECKS.isTrue("README.md: how to run its tests, .ci/run,", page.contains(".ci/run"));
        exampleOfThePage(page);
        example();
        CHECKS.end();
    }

    private static String due(String[] heading) {
        return String.join(" ", heading).substring(heading[0].length() + 1);
    }

    private static void headingsOfTheDocument() {
        Document document = Document.read();
        if (document == null) {
            System.out.println("no ../shared/DOC.md here; the headings are not compared with it");
            return;
        }
        for (String[] heading : HEADINGS) {
            String calls = due(heading).replaceAll("\\([^)]*\\) ", ", ").replaceAll("\\([^)]*\\)", "");
            String words = "Ahead of the calls " + calls + " the interface says: ---- " + heading[0] + ".";
            CHECKS.isTrue("that it stands in the document, Terms: \"" + words + "\"", document.says("Terms", words));
        }
    }

    private static void methodsOfThePage(List<String> page, String[] heading) {
        List<String> named = new ArrayList<>();
        int start = page.indexOf("| " + heading[0] + " | what it is for |");
        CHECKS.isTrue("README.md: the heading " + heading[0], start >= 0);
        for (int line = start + 2; start >= 0 && line < page.size(); line++) {
            Matcher row = ROW.matcher(page.get(line));
            if (!row.matches()) {
                break;
            }
            named.add(row.group(1));
            CHECKS.isTrue("README.md: what " + row.group(1) + " is for", !row.group(2).trim().isEmpty());
        }
        same("README.md, " + heading[0], named, heading);
    }

    /** "Ahead of the calls .. the interface says: ---- .." */
    private static void methodsOfTheClass(List<String> source, String[] heading) {
        List<String> named = new ArrayList<>();
        int start = source.indexOf("    // ---- " + heading[0]);
        CHECKS.isTrue("Terms, \"Ahead of the calls\": the heading ---- " + heading[0], start >= 0);
        for (int line = start + 1; start >= 0 && line < source.size(); line++) {
            if (source.get(line).startsWith("    // ---- ")) {
                break;
            }
            Matcher method = METHOD.matcher(source.get(line));
            if (method.matches()) {
                named.add(method.group(1) + "(" + method.group(2).replaceAll("(int|boolean) ", "") + ")");
            }
        }
        same("Terms, \"Ahead of the calls\": behind ---- " + heading[0], named, heading);
    }

    private static void same(String where, List<String> named, String[] heading) {
        String got = String.join(" ", named);
        CHECKS.isTrue(where + ": there is " + got + ", due is " + due(heading) + "; this", got.equals(due(heading)));
    }

    private static void exampleOfThePage(List<String> page) {
        List<String> calls = new ArrayList<>();
        int start = page.indexOf("```java");
        CHECKS.isTrue("README.md: an example", start >= 0);
        for (int line = start + 1; start >= 0 && line < page.size() && !page.get(line).equals("```"); line++) {
            calls.add(page.get(line).replaceAll("//.*", "").trim());
        }
        for (int i = 0; i < Math.max(calls.size(), EXAMPLE.length); i++) {
            String got = i < calls.size() ? calls.get(i) : "nothing";
            String due = i < EXAMPLE.length ? EXAMPLE[i] : "nothing";
            CHECKS.isTrue("README.md: in the example " + got + ", tried is " + due + "; this", got.equals(due));
        }
    }

    /** The example's calls, with what the page says of them. */
    private static void example() {
        FeatherBeds beds = new FeatherBeds();
        int sack = beds.addSack(0);
        CHECKS.due("not damp", beds.sack(sack, 7), 0);
        beds.put(sack, 0, 100);
        CHECKS.due("100 of size 0", beds.sack(sack, 0), 100);
        beds.setWind(1);
        beds.blow(sack);
        CHECKS.due("fallen into chamber 3", beds.chamber(3, 0), 60);
        CHECKS.due("into 4", beds.chamber(4, 0), 25);
        CHECKS.due("into 2", beds.chamber(2, 0), 15);
        int tick = beds.addTick(2, 1, 5);
        beds.fill(tick, 0, 3, 60);
        CHECKS.due("in square 0", beds.square(tick, 0, 0), 60);
        beds.pass(10);
        CHECKS.due("how warm the coldest square is", beds.tick(tick, 5), 162);
    }
}
