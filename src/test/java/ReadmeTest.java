import java.io.IOException;
import java.lang.reflect.Method;
import java.lang.reflect.Modifier;
import java.nio.file.Files;
import java.nio.file.Path;
import java.util.ArrayList;
import java.util.List;
import java.util.regex.Matcher;
import java.util.regex.Pattern;

/** README.md: each example there is a run on a new object, and each answer that it tells is the one given; every call is named. */
public final class ReadmeTest {
    private static final Pattern EXAMPLE = Pattern.compile("```java\n(.*?)```", Pattern.DOTALL);
    private static final Pattern ROW = Pattern.compile("x\\.(\\w+\\([^)]*\\));\\s*// (throws|true|false|-?\\d+)( NoSuchElementException$|: .*|$)");
    private static final String NEW = "SpineDesks x = new SpineDesks();";

    private static void example(int number, String text) {
        List<String> rows = new ArrayList<>();
        String[] lines = text.split("\n");
        Check.due("example " + number + " begins with a new object", lines[0], NEW);
        for (int i = 1; i < lines.length; i++) {
            Matcher m = ROW.matcher(lines[i]);
            if (m.matches()) rows.add(m.group(1) + (m.group(2).equals("throws") ? " throws" : " = " + m.group(2)));
            else Check.fault("example " + number + ": '" + lines[i] + "' is no call with its answer");
        }
        Edges.run("README.md, example " + number + ": ", rows);
    }

    private static void named(String text) {
        for (Method m : SpineDesks.class.getDeclaredMethods()) {
            if (Modifier.isPublic(m.getModifiers())) Check.due("README.md names " + m.getName(), text.contains("`" + m.getName() + "`"), true);
        }
    }

    public static void main(String[] args) throws IOException {
        String text = Files.readString(Path.of("README.md"));
        Matcher m = EXAMPLE.matcher(text);
        int n = 0;
        while (m.find()) example(++n, m.group(1));
        Check.due("README.md has examples", n > 0, true);
        named(text);
        Check.end();
    }
}
