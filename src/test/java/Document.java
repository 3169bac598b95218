import java.io.IOException;
import java.nio.file.Files;
import java.nio.file.Path;
import java.util.ArrayList;
import java.util.List;
import java.util.Map;
import java.util.TreeMap;
import java.util.regex.Matcher;
import java.util.regex.Pattern;

/** The document's sentences, as they stand there: those of each promise, and those of its terms. */
final class Document {
    private static final Path FILE = Path.of("../shared/DOC.md");
    private static final Pattern PROMISE = Pattern.compile("^## Promise (\\d+): (\\w| )+$\\s+`[^`]*`: ([^\\n]*)$", Pattern.MULTILINE);

    private final List<String> face = new ArrayList<>();
    private final List<String> terms = new ArrayList<>();
    private final Map<Integer, List<String>> promises = new TreeMap<>();

    private Document(String text) {
        String open = text.substring(text.indexOf("## The public face"), text.indexOf("## Terms"));
        for (String line : open.split("\n")) if (line.startsWith("    public ")) face.add(line.trim());
        String part = text.substring(text.indexOf("## Terms") + "## Terms".length(), text.indexOf("## Promise 1:"));
        for (String s : sentences(part.replaceAll("```(text)?", " "))) {
            // headings of parts, not sentences
            if (!s.equals("I.") && !s.equals("II.") && !s.equals("IN FULL.")) terms.add(s);
        }
        Matcher m = PROMISE.matcher(text);
        while (m.find()) promises.put(Integer.parseInt(m.group(1)), sentences(m.group(3)));
    }

    static boolean isThere() {
        return Files.exists(FILE);
    }

    static Document read() throws IOException {
        return new Document(Files.readString(FILE));
    }

    /** A sentence ends with a dot that has neither a dot nor a space ahead of it ("0 .. 5" has no end). */
    private static List<String> sentences(String text) {
        return List.of(text.replaceAll("\\s+", " ").trim().split("(?<=[^ .]\\.) "));
    }

    /** The lines of the face, each with its ';'. */
    List<String> face() {
        return face;
    }

    List<String> terms() {
        return terms;
    }

    Map<Integer, List<String>> promises() {
        return promises;
    }
}
