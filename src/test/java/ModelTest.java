import java.lang.reflect.InvocationTargetException;
import java.lang.reflect.Method;
import java.lang.reflect.Modifier;
import java.util.ArrayList;
import java.util.Arrays;
import java.util.Comparator;
import java.util.List;
import java.util.Map;
import java.util.Random;
import java.util.TreeMap;

/** Runs of calls, made from fixed seeds, on the class and on the model; each answer has to be the same. */
public final class ModelTest {
    private static final int CALLS = 512;
    private static final int RUNS = 400;

    private static final List<Method> FACE = face();
    private static final Map<String, Integer> SEEN = new TreeMap<>();

    /** What a run is like: how wide its keys are, how many items come before the mixed calls, what is called most. */
    private static final class Kind {
        final Random random;
        final int keys;
        final int fill;
        final int desks;
        final boolean arcs;
        final int wild;

        Kind(long seed) {
            random = new Random(seed);
            keys = new int[] {3, 12, 100, 1_000_000_000}[random.nextInt(4)];
            fill = new int[] {0, 10, 60, 310}[random.nextInt(4)];
            desks = new int[] {1, 2, 6, 6}[random.nextInt(4)];
            arcs = random.nextInt(3) == 0;
            wild = random.nextInt(3) == 0 ? 4 : 40;
        }
    }

    private static List<Method> face() {
        List<Method> out = new ArrayList<>();
        for (Method m : SpineDesks.class.getDeclaredMethods()) if (Modifier.isPublic(m.getModifiers())) out.add(m);
        out.sort(Comparator.comparing(Method::getName));
        return out;
    }

    private static Method named(String name) {
        for (Method m : FACE) if (m.getName().equals(name)) return m;
        throw new IllegalStateException(name);
    }

    private static int wildNumber(Random r) {
        int[] odd = {-1, 6, 8, 20, 300, 100, 40, 60, -2, 1_000_001, -1_000_001, 1_000_000_001, -1_000_000_001,
            1_000_000_000, -1_000_000_000, Integer.MIN_VALUE, Integer.MAX_VALUE, 1_000_000, -1_000_000, 30, 31, 50, 51, 99, 39, 59};
        return odd[r.nextInt(odd.length)];
    }

    private static int key(Kind k) {
        return k.random.nextInt(2 * k.keys + 1) - k.keys;
    }

    private static int itemNumber(Kind k, Model y) {
        List<Integer> there = y.itemsThere();
        if (there.isEmpty() || k.random.nextInt(12) == 0) return k.random.nextInt(y.count(0) + 1);
        return there.get(k.random.nextInt(there.size()));
    }

    private static int cost(Kind k) {
        return k.random.nextInt(Math.min(k.keys, 1_000_000) + 1);
    }

    /** An argument that mostly can be, by the call and by where it stands. */
    private static int number(Kind k, Model y, String call, int at) {
        Random r = k.random;
        if (r.nextInt(k.wild) == 0) return wildNumber(r);
        String where = call + at;
        switch (where) {
            case "enter1": case "split2": case "rekey1": case "below1": return key(k);
            case "enter2": case "tagged0": return r.nextInt(4);
            case "round0": return 1 + r.nextInt(r.nextInt(4) == 0 ? 30 : 7);
            case "cross0": case "uncross0": case "cut0": case "rekey0": case "key0": case "item0": case "above0":
                return itemNumber(k, y);
            case "raise1": return r.nextInt(2001) - 1000;
            case "part2": return 1 + r.nextInt(r.nextInt(4) == 0 ? 50 : 4);
            case "arc0": case "arc1": case "best0": case "by0": case "by1": case "second0":
            case "dearer0": case "without0": case "cheaper0": return r.nextInt(8);
            case "arc2": case "price1": return cost(k);
            case "unarc0": case "price0": case "dearer1": case "without1": case "cheaper1": case "arcs0": return r.nextInt(20);
            case "keep0": case "again0": return r.nextInt(2);
            case "item1": case "desk1": return r.nextInt(9);
            case "along1": case "above1": return r.nextInt(8);
            case "ranked1": return 1 + r.nextInt(6);
            case "least1": return r.nextInt(20);
            case "pair2": case "log0": return r.nextInt(r.nextInt(2) == 0 ? 4 : 41);
            case "coming0": return r.nextInt(r.nextInt(2) == 0 ? 6 : 60);
            case "count0": return r.nextInt(13);
            case "along2": case "tagged1": case "melding2": case "best1": case "second1": case "center0": case "arcs1":
            case "keys1": case "pair3": case "log1": return r.nextInt(4);
            default: return r.nextInt(k.desks);
        }
    }

    private static Object[] arguments(Kind k, Model y, Method m) {
        Class<?>[] types = m.getParameterTypes();
        Object[] out = new Object[types.length];
        for (int i = 0; i < out.length; i++) {
            int n = number(k, y, m.getName(), i);
            if (types[i] == long.class) out[i] = k.random.nextInt(50) == 0 ? Long.MAX_VALUE : (long) n;
            else out[i] = n;
        }
        return out;
    }

    private static Method choose(Kind k, int done) {
        Random r = k.random;
        if (done < k.fill) return named("enter");
        if (done == k.fill && k.arcs) return named("arc");
        if (k.arcs && done < k.fill + 25) return named("arc");
        String[] arcCalls = {"arc", "unarc", "price", "best", "by", "dearer", "without", "cheaper", "second", "center"};
        if (k.arcs && r.nextInt(3) == 0) return named(arcCalls[r.nextInt(arcCalls.length)]);
        if (r.nextInt(12) == 0) return named("cross");
        if (r.nextInt(12) == 0) return named("enter");
        Method m = FACE.get(r.nextInt(FACE.size()));
        boolean rare = m.getName().equals("gather") || m.getName().equals("even") || m.getName().equals("again");
        return rare && r.nextInt(3) > 0 ? named("rekey") : m;
    }

    private static Object answer(Object on, String name, Class<?>[] types, Object[] args) {
        try {
            return on.getClass().getMethod(name, types).invoke(on, args);
        } catch (InvocationTargetException e) {
            return "throws." + e.getCause().getClass().getSimpleName();
        } catch (ReflectiveOperationException e) {
            throw new IllegalStateException(e);
        }
    }

    private static void tell(String name, Object got) {
        String kind = got instanceof Integer && (Integer) got < 0 && (Integer) got >= -5 ? got.toString()
            : got instanceof String || got instanceof Boolean ? got.toString()
            : got.equals(10_000_000) ? "10000000" : got.equals(Long.MIN_VALUE) ? "none" : "a number";
        SEEN.merge(name + " " + kind, 1, Integer::sum);
    }

    private static String shape(Object on) {
        StringBuilder out = new StringBuilder();
        Class<?>[] two = {int.class, int.class};
        for (int d = 0; d < 6; d++) for (int w = 0; w < 9; w++) out.append(answer(on, "desk", two, new Object[] {d, w})).append(' ');
        for (int i = 0; i < 300; i++) {
            for (int w = 0; w < 7; w++) out.append(answer(on, "item", two, new Object[] {i, w})).append(' ');
            out.append(answer(on, "key", new Class<?>[] {int.class}, new Object[] {i})).append('\n');
        }
        for (int i = 0; i < 40; i++) for (int w = 0; w < 3; w++) out.append(answer(on, "log", two, new Object[] {i, w})).append(' ');
        for (int w = 0; w < 13; w++) out.append(answer(on, "count", new Class<?>[] {int.class}, new Object[] {w})).append(' ');
        return out.toString();
    }

    private static void run(long seed) {
        Kind k = new Kind(seed);
        SpineDesks x = new SpineDesks();
        Model y = new Model();
        List<String> rows = new ArrayList<>();
        for (int i = 0; i < CALLS; i++) {
            Method m = choose(k, i);
            Object[] args = arguments(k, y, m);
            Object got = answer(x, m.getName(), m.getParameterTypes(), args);
            Object want = answer(y, m.getName(), m.getParameterTypes(), args);
            rows.add(m.getName() + Arrays.toString(args) + " = " + got);
            tell(m.getName(), got);
            if (!got.equals(want)) {
                Check.fault("seed " + seed + ", call " + i + ": " + rows.get(i) + ", due is " + want);
                return;
            }
        }
        // what a question shows at the end; the numbers there go beyond 512 calls, which the class bears
        if (seed % 4 == 0 && !shape(x).equals(shape(y))) Check.fault("seed " + seed + ": other trees at the end");
        Check.due("a run", 1L, 1L);
    }

    private static void mustBeSeen(String... kinds) {
        for (String kind : kinds) {
            if (!SEEN.containsKey(kind)) Check.fault("no run has seen " + kind);
        }
    }

    public static void main(String[] args) {
        for (long seed = 0; seed < RUNS && Check.wrongs() < 5; seed++) run(seed);
        mustBeSeen("enter -1", "enter -5", "take -1", "take -3", "round -1", "cross -2", "cross -4", "uncross -2", "uncross -4",
            "cut -2", "rekey -1", "rekey -2", "rekey -4", "raise -1", "raise -3", "meld -1", "meld -3", "part -1", "part -3",
            "split -1", "split -3", "gather -1", "gather -3", "arc -1", "arc -5", "unarc -2", "price -1", "price -2", "price -4",
            "keep false", "again false", "again true", "key throws.NoSuchElementException", "item throws.NoSuchElementException",
            "above throws.NoSuchElementException", "dearer 10000000", "without 10000000", "cheaper 10000000", "second -1",
            "pair none", "keys none", "log none", "even a number", "uncross a number", "split a number", "coming a number");
        if (args.length > 0) SEEN.forEach((kind, n) -> System.out.println(kind + ": " + n));
        Check.end();
    }
}
