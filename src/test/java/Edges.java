import java.lang.reflect.InvocationTargetException;
import java.lang.reflect.Method;
import java.lang.reflect.Modifier;
import java.util.ArrayList;
import java.util.HashMap;
import java.util.List;
import java.util.Map;
import java.util.NoSuchElementException;
import java.util.function.IntFunction;

/**
 * Runs of calls that are written as rows, "enter(0, 5, 1) = 0; key(9) throws", each about one sentence of the document.
 * A run is done on a new object of the class and on a new model: a due answer that only one of them gives is wrong, too.
 */
final class Edges {
    /** A sentence, or a clause of one, as it stands in the document, the promise it is read with, and the run's rows. */
    record Edge(int promise, String words, String which, List<String> rows) { }

    private static final int CALLS = 512;
    private static final List<Edge> ALL = new ArrayList<>();
    private static final Map<String, Method> FACE = methods(SpineDesks.class);
    private static final Map<String, Method> MODEL = methods(Model.class);

    private static Map<String, Method> methods(Class<?> c) {
        Map<String, Method> out = new HashMap<>();
        for (Method m : c.getDeclaredMethods()) {
            if (Modifier.isPublic(m.getModifiers())) {
                m.setAccessible(true);
                out.put(m.getName(), m);
            }
        }
        return out;
    }

    /** A ';' stands between calls. */
    static void edge(int promise, String words, String which, String... rows) {
        List<String> calls = new ArrayList<>();
        for (String call : String.join(";", rows).split(";")) calls.add(call.trim());
        Edge e = new Edge(promise, words, which, calls);
        ALL.add(e);
        run(e);
    }

    static List<Edge> all() {
        return ALL;
    }

    static String times(int n, IntFunction<String> row) {
        List<String> out = new ArrayList<>();
        for (int i = 0; i < n; i++) out.add(row.apply(i));
        return String.join(";", out);
    }

    /** The rows for each number from 0 on; a '#' stands for it. */
    static String each(int n, String rows) {
        return times(n, i -> rows.replace("#", "" + i));
    }

    /** DESK 0 with KEYS as given, TAG 0, numbers from 0 on. */
    static String with(int... keys) {
        return times(keys.length, i -> "enter(0, " + keys[i] + ", 0) = " + i);
    }

    private static void run(Edge e) {
        run("promise " + e.promise() + ", '" + e.words() + "', " + e.which() + ": ", e.rows());
    }

    /** Does the rows on a new object of the class and on a new model. */
    static void run(String where, List<String> rows) {
        SpineDesks x = new SpineDesks();
        Model y = new Model();
        Check.due(where + "an object has 512 calls at most", rows.size() <= CALLS, true);
        for (String row : rows) {
            String call = callOf(row);
            String due = dueOf(row);
            String before = isRefusal(call, due) ? seen(x) + told(x, due) : "";
            String got = answer(x, FACE, call);
            if (!got.equals(due)) Check.fault(where + call + " answered " + got + ", due is " + due);
            String model = answer(y, MODEL, call);
            if (!model.equals(due)) Check.fault(where + call + " is " + model + " by the model, due is " + due);
            if (isRefusal(call, due)) Check.due(where + call + " changes nothing else", (seen(x) + told(x, "")).equals(before), true);
        }
        Check.due(where, true, true);
    }

    static String callOf(String row) {
        return row.substring(0, row.indexOf(')') + 1).trim();
    }

    static String nameOf(String call) {
        return call.substring(0, call.indexOf('('));
    }

    /** "throws", or what stands behind the '='. */
    static String dueOf(String row) {
        String rest = row.substring(row.indexOf(')') + 1).trim();
        return rest.startsWith("=") ? number(rest.substring(1).trim()) : rest;
    }

    private static String number(String text) {
        switch (text) {
            case "MIN": return "" + Integer.MIN_VALUE;
            case "MAX": return "" + Integer.MAX_VALUE;
            case "LEAST": case "none": return "" + Long.MIN_VALUE;
            case "MOST": return "" + Long.MAX_VALUE;
            default: return text;
        }
    }

    private static Object[] arguments(Method m, String call) {
        String inside = call.substring(call.indexOf('(') + 1, call.length() - 1).trim();
        String[] parts = inside.isEmpty() ? new String[0] : inside.split(",");
        Object[] out = new Object[parts.length];
        for (int i = 0; i < parts.length; i++) {
            String n = number(parts[i].trim());
            if (m.getParameterTypes()[i] == long.class) out[i] = Long.parseLong(n);
            else out[i] = Integer.parseInt(n);
        }
        return out;
    }

    private static String answer(Object on, Map<String, Method> face, String call) {
        Method m = face.get(nameOf(call));
        try {
            return String.valueOf(m.invoke(on, arguments(m, call)));
        } catch (InvocationTargetException e) {
            return e.getCause().getClass() == NoSuchElementException.class ? "throws" : e.getCause().toString();
        } catch (ReflectiveOperationException e) {
            throw new IllegalStateException(e);
        }
    }

    /** A call that does something, and is due to answer -1 .. -5, or false. */
    private static boolean isRefusal(String call, String due) {
        boolean does = " enter take round cross uncross cut rekey raise meld part split gather even arc unarc price keep again "
            .contains(" " + nameOf(call) + " ");
        return does && (due.startsWith("-") || due.equals("false"));
    }

    /** How many calls were REFUSED by each reason, one more by that of the answer. */
    private static String told(SpineDesks x, String answer) {
        StringBuilder out = new StringBuilder();
        for (int why = 1; why <= 5; why++) out.append(x.count(7 + why) + (answer.equals("-" + why) ? 1 : 0)).append(' ');
        return out.toString();
    }

    /** All that can be seen of desks, items, log and arcs; these questions come beside the run's calls, which the class bears. */
    static String seen(SpineDesks x) {
        StringBuilder out = new StringBuilder();
        for (int i = 0; i < x.count(0); i++) out.append(seenItem(x, i)).append('\n');
        for (int d = 0; d < 6; d++) out.append(x.desk(d, 0)).append(' ');
        for (int i = 0; i < 40; i++) for (int w = 0; w < 3; w++) out.append(x.log(i, w)).append(' ');
        for (int a = 0; a < 20; a++) for (int w = 0; w < 3; w++) out.append(x.arcs(a, w)).append(' ');
        for (int w = 0; w < 8; w++) out.append(x.count(w)).append(' ');
        return out.toString();
    }

    private static String seenItem(SpineDesks x, int item) {
        try {
            StringBuilder out = new StringBuilder().append(x.key(item));
            for (int w = 0; w < 7; w++) out.append(' ').append(x.item(item, w));
            return out.toString();
        } catch (NoSuchElementException e) {
            return "gone";
        }
    }
}
