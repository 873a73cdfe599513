import java.io.IOException;
import java.nio.file.Files;
import java.nio.file.Path;
import java.nio.file.Paths;
import java.util.ArrayList;
import java.util.LinkedHashMap;
import java.util.List;
import java.util.Map;
import java.util.regex.Pattern;

/** The document's text by its sections, so that the tests' sentences can be looked for in it. */
final class Document {
    private static final Path PLACE = Paths.get("..", "shared", "DOC.md");
    /** Words with which the document names a boundary case. */
    private static final Pattern BOUNDARY = Pattern.compile("Throws|throws|at most|at least|at first|no more|empty|none"
            + "|no others|fewer|wraps|[0-9] to [0-9]|of several|first|is cut|more than|from 0|nothing|less warm"
            + "|without|the yard|they stay");
    private static final Pattern END_OF_CLAUSE = Pattern.compile("(?<=[.;:,])\\s+");

    private final Map<String, String> sections = new LinkedHashMap<>();

    private Document() {
    }

    static Document read() {
        if (!Files.isReadable(PLACE)) {
            return null;
        }
        Document document = new Document();
        try {
            String name = "";
            for (String line : Files.readAllLines(PLACE)) {
                if (line.startsWith("## ")) {
                    int colon = line.indexOf(':');
                    name = line.substring(3, colon < 0 ? line.length() : colon);
                } else {
                    document.sections.merge(name, plain(line), (before, more) -> before + "\n" + more);
                }
            }
        } catch (IOException e) {
            throw new IllegalStateException(e);
        }
        return document;
    }

    private static String plain(String text) {
        return text.replace("`", "").trim();
    }

    boolean says(String section, String words) {
        return sections.getOrDefault(section, "").contains(words);
    }

    /** The sentences that do not stand in the document, and the boundary cases there of which none is told. */
    List<String> wrongOnes(List<String[]> said) {
        List<String> wrong = new ArrayList<>();
        for (String[] sentence : said) {
            if (!says(sentence[0], sentence[1])) {
                wrong.add("that it stands in the document, " + sentence[0] + ": \"" + sentence[1] + "\"");
            }
        }
        for (String section : sections.keySet()) {
            if (section.startsWith("Promise") || section.equals("Terms")) {
                wrong.addAll(untold(section, said));
            }
        }
        return wrong;
    }

    private List<String> untold(String section, List<String[]> said) {
        List<String> untold = new ArrayList<>();
        for (String line : sections.get(section).split("\n")) {
            // a method's head: FaceTest looks at it
            boolean isHead = line.startsWith("int ") || line.startsWith("long ") || line.startsWith("double ");
            int start = isHead ? line.indexOf(": ") + 2 : 0;
            for (String part : END_OF_CLAUSE.split(line.substring(start))) {
                String clause = part.replaceAll("[.;:,]$", "");
                if (BOUNDARY.matcher(clause).find() && !isTold(section, clause, said)) {
                    untold.add("that " + section + " has a test of \"" + clause + "\"");
                }
            }
        }
        return untold;
    }

    private static boolean isTold(String section, String clause, List<String[]> said) {
        for (String[] sentence : said) {
            if (sentence[0].equals(section) && (sentence[1].contains(clause) || clause.contains(sentence[1]))) {
                return true;
            }
        }
        return false;
    }
}
