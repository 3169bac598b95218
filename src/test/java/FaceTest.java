import java.io.IOException;
import java.lang.reflect.Constructor;
import java.lang.reflect.Field;
import java.lang.reflect.Method;
import java.lang.reflect.Modifier;
import java.nio.file.Files;
import java.nio.file.Path;
import java.util.ArrayList;
import java.util.Arrays;
import java.util.List;
import java.util.Set;
import java.util.TreeSet;
import java.util.regex.Matcher;
import java.util.regex.Pattern;

/** The document's face, whole and nothing else, and those rules of LANGUAGE.md that can be read from the code. */
public final class FaceTest {
    private static final String[] FACE = {
        "int enter(int,int,int)", "int take(int)", "int round(int)", "int cross(int)", "int uncross(int)", "int cut(int)",
        "int rekey(int,int)", "int raise(int,int)", "int meld(int,int)", "int part(int,int,int)", "int split(int,int,int)",
        "int gather(int)", "int even()", "int arc(int,int,int)", "int unarc(int)", "int price(int,int)", "boolean keep(int)",
        "boolean again(int)", "long key(int)", "int item(int,int)", "int desk(int,int)", "int along(int,int,int)",
        "int ranked(int,int)", "int least(int,int)", "int below(int,long)", "long keys(int,int)", "long pair(int,int,int,int)",
        "int above(int,int)", "int melding(int,int,int)", "int taking(int)", "int coming(int)", "int tagged(int,int)",
        "long log(int,int)", "int best(int,int)", "int by(int,int)", "int dearer(int,int)", "int without(int,int)",
        "int cheaper(int,int)", "int second(int,int)", "int center(int)", "int arcs(int,int)", "int count(int)"};

    private static final String[] FORBIDDEN = {
        "->", "::", "\\bfinally\\b", "\\bsynchronized\\b", "\\bassert\\b", "\\btry\\b", "\\bcatch\\b", "\\bdouble\\b", "\\bfloat\\b",
        "\\bprotected\\b", "^package\\b", "Exact\\(", "\\bSystem\\.(?!arraycopy)", "\\bRandom\\b", "\\bThread\\b", "\\bObject\\b",
        "\\bstatic \\{", "\\bthrow new (?!NoSuchElementException\\(\")", "import (?!java\\.util\\.(Arrays|NoSuchElementException);)",
        "\\bArrays\\.(?!fill)", "\\[\\]\\[\\]", "while \\(true\\)", "for \\(;;\\)"};

    private static String signed(Method m) {
        StringBuilder out = new StringBuilder(m.getReturnType().getSimpleName()).append(' ').append(m.getName()).append('(');
        Class<?>[] types = m.getParameterTypes();
        for (int i = 0; i < types.length; i++) out.append(i == 0 ? "" : ",").append(types[i].getSimpleName());
        return out.append(')').toString();
    }

    private static void members() {
        Set<String> open = new TreeSet<>();
        Set<String> names = new TreeSet<>();
        for (Method m : SpineDesks.class.getDeclaredMethods()) {
            if (Modifier.isPublic(m.getModifiers())) {
                open.add(signed(m));
                names.add(m.getName());
            } else if (!Modifier.isPrivate(m.getModifiers()) && !m.isSynthetic()) {
                Check.fault("neither public nor private: " + signed(m));
            }
        }
        Check.due("the methods are those of the document", open.equals(new TreeSet<>(Arrays.asList(FACE))), true);
        for (Method m : SpineDesks.class.getDeclaredMethods()) {
            if (Modifier.isPrivate(m.getModifiers()) && names.contains(m.getName())) Check.fault("a public one's name: " + signed(m));
        }
        for (Field f : SpineDesks.class.getDeclaredFields()) {
            boolean none = f.getName().equals("NONE") && Modifier.isPublic(f.getModifiers());
            if (!none && !Modifier.isPrivate(f.getModifiers()) && !f.isSynthetic()) Check.fault("an open field: " + f.getName());
            if (Modifier.isStatic(f.getModifiers()) && !Modifier.isFinal(f.getModifiers())) Check.fault("static, not final: " + f.getName());
        }
        Check.due("the class is public and final", SpineDesks.class.getModifiers(), Modifier.PUBLIC | Modifier.FINAL);
        Constructor<?>[] made = SpineDesks.class.getDeclaredConstructors();
        Check.due("one constructor", made.length, 1);
        Check.due("it is public", Modifier.isPublic(made[0].getModifiers()), true);
        Check.due("it takes nothing", made[0].getParameterCount(), 0);
        inside(names);
    }

    private static void inside(Set<String> names) {
        Class<?>[] classes = SpineDesks.class.getDeclaredClasses();
        Check.due("at most twelve classes", classes.length < 12, true);
        for (Class<?> c : classes) {
            boolean fits = Modifier.isStatic(c.getModifiers()) && !Modifier.isPublic(c.getModifiers());
            Check.due(c.getName() + " is static and not public", fits, true);
            int fields = 0;
            for (Field f : c.getDeclaredFields()) fields += Modifier.isStatic(f.getModifiers()) ? 0 : 1;
            Check.due(c.getName() + " has at most twenty fields", fields <= 20, true);
            for (Method m : c.getDeclaredMethods()) {
                if (names.contains(m.getName())) Check.fault("a public one's name: " + signed(m));
                Check.due(m.getName() + " takes at most seven", m.getParameterCount() <= 7, true);
            }
        }
    }

    private static void text() throws IOException {
        String code = Files.readString(Path.of("src/main/java/SpineDesks.java"));
        Check.due("signs 1 to 127", code.chars().allMatch(c -> c > 0 && c < 128), true);
        String bare = Pattern.compile("/\\*.*?\\*/", Pattern.DOTALL).matcher(code).replaceAll("").replaceAll("//[^\n]*", "");
        for (String rule : FORBIDDEN) {
            Matcher m = Pattern.compile(rule, Pattern.MULTILINE).matcher(bare);
            Check.due("the code has " + rule, m.find(), false);
        }
    }

    /** Each line of the document's face stands in the code, and none that is public stands there beside them. */
    private static void asTheDocument(Document doc) throws IOException {
        List<String> due = new ArrayList<>();
        for (String line : doc.face()) due.add(line.replaceAll(";$", ""));
        List<String> found = new ArrayList<>();
        for (String line : Files.readAllLines(Path.of("src/main/java/SpineDesks.java"))) {
            if (line.startsWith("    public ")) found.add(line.trim().replaceAll("( \\{|;)$", ""));
        }
        Check.due("lines of the face", due.size(), FACE.length + 2);
        for (String line : due) Check.due("the code has '" + line + "'", found.contains(line), true);
        for (String line : found) Check.due("the document has '" + line + "'", due.contains(line), true);
    }

    public static void main(String[] args) throws IOException {
        members();
        text();
        if (Document.isThere()) asTheDocument(Document.read());
        else System.out.println("the document is not there: its face was not looked at");
        Check.end();
    }
}
