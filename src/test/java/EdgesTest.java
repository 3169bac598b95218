import java.io.IOException;
import java.util.List;
import java.util.regex.Matcher;
import java.util.regex.Pattern;

/**
 * Each boundary case that a sentence of the document names, by a run of its own; and a look at the document
 * itself: every sentence of it has such a run, and every number that a promise refuses by is an answer in one.
 */
public final class EdgesTest {
    private static final int PROMISES = 43;

    /** The call of each promise, by its number. */
    private static final List<String> CALLS = List.of("", "", "enter", "take", "round", "cross", "uncross", "cut", "rekey", "raise", "meld",
        "part", "split", "gather", "even", "arc", "unarc", "price", "keep", "again", "key", "item", "desk", "along", "ranked", "least", "below",
        "keys", "pair", "above", "melding", "taking", "coming", "tagged", "log", "best", "by", "dearer", "without", "cheaper", "second",
        "center", "arcs", "count");

    private static boolean quotes(Edges.Edge e, String sentence) {
        return sentence.contains(e.words());
    }

    private static boolean stands(Edges.Edge e, Document doc) {
        for (String s : doc.promises().getOrDefault(e.promise(), List.of())) if (quotes(e, s)) return true;
        for (String s : doc.terms()) if (quotes(e, s)) return true;
        return false;
    }

    private static boolean isTested(int promise, String sentence) {
        for (Edges.Edge e : Edges.all()) if (e.promise() == promise && quotes(e, sentence)) return true;
        return false;
    }

    private static boolean isTested(String term) {
        for (Edges.Edge e : Edges.all()) if (quotes(e, term)) return true;
        return false;
    }

    /** A run for this sentence has a row of the promise's own call with this answer. */
    private static boolean isAnswered(int promise, String sentence, String call, String answer) {
        for (Edges.Edge e : Edges.all()) {
            if (e.promise() != promise || !quotes(e, sentence)) continue;
            for (String row : e.rows()) {
                if (Edges.nameOf(Edges.callOf(row)).equals(call) && Edges.dueOf(row).equals(answer)) return true;
            }
        }
        return false;
    }

    /** "-1 (alike, too); -3 (..).", "NONE: others.", "False: others.": what the sentence says is answered for a wrong call. */
    private static void refusals(int promise, String call, String sentence) {
        Matcher m = Pattern.compile("(^|; )(-[1-5]|NONE|False|NoSuchElementException|Long.MIN_VALUE)[:.; ]").matcher(sentence);
        while (m.find()) {
            String answer = m.group(2).replace("NONE", "-1").replace("False", "false").replace("NoSuchElementException", "throws")
                .replace("Long.MIN_VALUE", "" + Long.MIN_VALUE);
            boolean found = isAnswered(promise, sentence, call, answer);
            Check.due("promise " + promise + ", '" + sentence + "': a run has " + call + " answer " + answer, found, true);
            m.region(m.end() - 1, sentence.length());
        }
    }

    private static void compare(Document doc) {
        for (Edges.Edge e : Edges.all()) {
            Check.due("promise " + e.promise() + ", '" + e.words() + "': the document says it", stands(e, doc), true);
        }
        for (String s : doc.terms()) Check.due("'" + s + "' has a run", isTested(s), true);
        Check.due("promises of the document", doc.promises().size(), PROMISES);
        doc.promises().forEach((promise, sentences) -> {
            for (String s : sentences) {
                Check.due("promise " + promise + ", '" + s + "' has a run", isTested(promise, s), true);
                refusals(promise, CALLS.get(promise), s);
            }
        });
    }

    public static void main(String[] args) throws IOException {
        EdgesOfDoing.all();
        EdgesOfAsking.all();
        EdgesOfArcs.all();
        if (Document.isThere()) compare(Document.read());
        else System.out.println("the document is not there: its sentences were not looked for");
        System.out.println(Edges.all().size() + " runs");
        Check.end();
    }
}
