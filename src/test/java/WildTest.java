import java.lang.reflect.InvocationTargetException;
import java.lang.reflect.Method;
import java.lang.reflect.Modifier;
import java.util.Arrays;
import java.util.NoSuchElementException;

/**
 * Every call with every mix of odd numbers, on halls that are empty, full, crossed out: nothing but the
 * document's exception comes out of a call, and neither a question nor a refused call changes anything else.
 */
public final class WildTest {
    private static final int[] ODD = {Integer.MIN_VALUE, -1_000_000_001, -1, 0, 1, 5, 6, 8, 19, 20, 51, 299, 300, Integer.MAX_VALUE};
    private static final String DOES = " enter take round cross uncross cut rekey raise meld part split gather even arc unarc price keep again ";
    private static final String THROWS = " key item above ";

    private static SpineDesks empty() {
        return new SpineDesks();
    }

    private static SpineDesks full() {
        SpineDesks x = new SpineDesks();
        for (int i = 0; i < 300; i++) x.enter(i % 6, i * 7919 % 101 - 50, i % 100);
        for (int a = 0; a < 20; a++) x.arc(a % 8, (a * 3 + 1) % 8 == a % 8 ? (a + 1) % 8 : (a * 3 + 1) % 8, a * 37 % 11);
        return x;
    }

    private static SpineDesks crossed() {
        SpineDesks x = full();
        for (int i = 0; i < 300; i += 2) x.cross(i);
        x.round(30);
        x.keep(1);
        x.unarc(5);
        return x;
    }

    /** One deep tree of lefts. */
    private static SpineDesks chain() {
        SpineDesks x = new SpineDesks();
        for (int i = 0; i < 300; i++) x.enter(2, -i, 0);
        return x;
    }

    private static SpineDesks hall(int kind) {
        return kind == 0 ? empty() : kind == 1 ? full() : kind == 2 ? crossed() : chain();
    }

    /** All that can be seen, but for the counts that a refused call changes. */
    private static String seen(SpineDesks x) {
        StringBuilder out = new StringBuilder();
        for (int i = 0; i < 300; i++) {
            try {
                out.append(x.key(i)).append(' ').append(x.item(i, 2)).append(x.item(i, 1)).append(' ').append(x.item(i, 6)).append(' ');
            } catch (NoSuchElementException e) {
                out.append('-');
            }
        }
        for (int a = 0; a < 20; a++) out.append(x.arcs(a, 0)).append(' ').append(x.arcs(a, 1)).append(' ').append(x.arcs(a, 2)).append(' ');
        for (int what = 0; what < 8; what++) out.append(x.count(what)).append(' ');
        return out.append(x.log(0, 0)).toString();
    }

    private static int refusals(SpineDesks x) {
        int n = 0;
        for (int what = 8; what < 13; what++) n += x.count(what);
        return n;
    }

    private static boolean isRefused(Object got) {
        return got instanceof Integer && (Integer) got < 0 || got.equals(false);
    }

    private static void call(SpineDesks x, Method m, Object[] args) throws IllegalAccessException {
        String name = m.getName();
        boolean does = DOES.contains(" " + name + " ");
        String before = does ? "" : seen(x);
        int refused = refusals(x);
        try {
            Object got = m.invoke(x, args);
            boolean no = does && isRefused(got);
            int more = no && got instanceof Integer ? 1 : 0;
            Check.due(name + Arrays.toString(args) + " is told as refused", refusals(x) - refused, more);
        } catch (InvocationTargetException e) {
            boolean fits = e.getCause().getClass() == NoSuchElementException.class && THROWS.contains(" " + name + " ");
            Check.due(name + Arrays.toString(args) + " throws " + e.getCause(), fits, true);
        }
        if (!does) Check.due(name + Arrays.toString(args) + " changes nothing", seen(x).equals(before), true);
    }

    private static void refusedChangesNothing(SpineDesks x, Method m, Object[] args) throws IllegalAccessException {
        String before = seen(x);
        try {
            if (isRefused(m.invoke(x, args))) Check.due(m.getName() + Arrays.toString(args) + " changes nothing", seen(x).equals(before), true);
        } catch (InvocationTargetException e) {
            Check.fault(m.getName() + Arrays.toString(args) + " throws " + e.getCause());
        }
    }

    private static Object[] mix(Method m, int number) {
        Class<?>[] types = m.getParameterTypes();
        Object[] out = new Object[types.length];
        int rest = number;
        for (int i = 0; i < out.length; i++) {
            int n = ODD[rest % ODD.length];
            rest /= ODD.length;
            if (types[i] == long.class) out[i] = n == Integer.MAX_VALUE ? Long.MAX_VALUE : n == Integer.MIN_VALUE ? Long.MIN_VALUE : (long) n;
            else out[i] = n;
        }
        return out;
    }

    private static void mixes(Method m, int kind) throws IllegalAccessException {
        int all = (int) Math.pow(ODD.length, m.getParameterCount());
        boolean does = DOES.contains(" " + m.getName() + " ");
        SpineDesks x = hall(kind);
        // of three or four numbers not every mix is needed
        for (int n = 0; n < all; n += m.getParameterCount() > 3 ? 37 : m.getParameterCount() > 2 ? 3 : 1) {
            call(x, m, mix(m, n));
            if (does) refusedChangesNothing(x, m, mix(m, n));
        }
    }

    public static void main(String[] args) throws IllegalAccessException {
        for (Method m : SpineDesks.class.getDeclaredMethods()) {
            if (!Modifier.isPublic(m.getModifiers())) continue;
            for (int kind = 0; kind < 4; kind++) mixes(m, kind);
        }
        Check.end();
    }
}
