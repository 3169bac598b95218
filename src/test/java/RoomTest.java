import com.sun.management.ThreadMXBean;
import java.lang.management.ManagementFactory;
import java.lang.reflect.Array;
import java.lang.reflect.Field;
import java.lang.reflect.Modifier;
import java.util.Collections;
import java.util.IdentityHashMap;
import java.util.Set;

/**
 * All calls of a run live in one room: what an object holds is counted, when it is new and when it holds all that it
 * ever may, and the calls between make nothing beside it (but for the document's exceptions).
 */
public final class RoomTest {
    private static final int OBJECTS = 80;
    private static final int ELEMENTS = 12_000;
    private static final int CALLS = 512;

    /** Bytes; even the smallest row, made in one call of each, would come to eight times as much. */
    private static final long NOISE = 1_024;

    private long objects;
    private long elements;
    private final Set<Object> seen = Collections.newSetFromMap(new IdentityHashMap<>());

    /** Counts an object or row, its fields or elements, and all that hangs on it. */
    private void look(Object o) throws IllegalAccessException {
        if (o == null || !seen.add(o)) return;
        objects++;
        if (o.getClass().isArray()) {
            elements += Array.getLength(o);
            for (int i = 0; !o.getClass().getComponentType().isPrimitive() && i < Array.getLength(o); i++) look(Array.get(o, i));
            return;
        }
        for (Field f : o.getClass().getDeclaredFields()) {
            if (Modifier.isStatic(f.getModifiers())) continue;
            elements++;
            f.setAccessible(true);
            if (!f.getType().isPrimitive()) look(f.get(o));
        }
    }

    private static RoomTest room(SpineDesks x) throws IllegalAccessException {
        RoomTest r = new RoomTest();
        r.look(x);
        return r;
    }

    private static void fits(String which, RoomTest r) {
        System.out.println(which + ": " + r.objects + " objects, " + r.elements + " fields and elements");
        Check.due(which + " has few objects", r.objects <= OBJECTS, true);
        Check.due(which + " has few elements", r.elements <= ELEMENTS, true);
    }

    /** All items, all arcs, both kept, something tried on paper. */
    private static SpineDesks most() {
        SpineDesks x = new SpineDesks();
        for (int i = 0; i < 300; i++) x.enter(i % 6, i * 7919 % 1009, i % 100);
        for (int a = 0; a < 20; a++) x.arc(a % 8, (a + 1 + a / 8) % 8, a * 37 % 11);
        x.keep(0);
        x.keep(1);
        x.coming(59);
        return x;
    }

    /** One call of each that does something, then all as it was. */
    private static void doAll(SpineDesks x, int n) {
        x.again(n % 2);
        x.enter(n % 6, n, 1);
        x.take(n % 6);
        x.round(30);
        x.cross(299 - n % 100);
        x.uncross(299 - n % 100);
        x.cut(299 - n % 90);
        x.rekey(200 + n % 90, n);
        x.raise(n % 6, 1);
        x.part(n % 6, (n + 1) % 6, 10);
        x.split(n % 6, (n + 1) % 6, 500);
        x.meld(n % 6, (n + 2) % 6);
        x.even();
        x.gather(n % 6);
        x.unarc(n % 20);
        x.arc(0, 7, n);
        x.price(n % 20, n);
        x.again(1 - n % 2);
        x.keep(n % 2);
    }

    private static long askDesks(SpineDesks x, int n) {
        int d = n % 6;
        long sum = x.key(n % 300) + x.item(n % 300, n % 9) + x.desk(d, n % 9) + x.along(d, n % 9, n % 2) + x.ranked(d, 1 + n % 5);
        sum += x.least(d, n % 50) + x.below(d, n) + x.keys(d, n % 4) + x.pair(d, n % 5, n % 40, n % 3) + x.above(n % 300, n % 5);
        sum += x.melding(d, (n + 1) % 6, n % 2) + x.taking(d) + x.coming(n % 60) + x.tagged(n % 100, n % 2) + x.log(n % 40, n % 3);
        return sum + x.count(n % 13);
    }

    private static long askArcs(SpineDesks x, int n) {
        int p = n % 8;
        int a = n % 20;
        long sum = x.best(p, n % 3) + x.by(p, (n + 1) % 8) + x.dearer(p, a) + x.without(p, a) + x.cheaper(p, a) + x.second(p, n % 2);
        return sum + x.center(n % 2) + x.arcs(a, n % 3);
    }

    private static long doAndAsk(SpineDesks x, int calls) {
        long sum = 0;
        for (int n = 0; n < calls; n++) {
            sum += askDesks(x, n) + askArcs(x, n);
            doAll(x, n);
        }
        return sum;
    }

    private static void nothingIsMade(SpineDesks x) {
        if (!(ManagementFactory.getThreadMXBean() instanceof ThreadMXBean)) {
            System.out.println("this machine does not tell what is made");
            return;
        }
        ThreadMXBean bean = (ThreadMXBean) ManagementFactory.getThreadMXBean();
        long me = Thread.currentThread().getId();
        doAndAsk(x, CALLS);
        bean.getThreadAllocatedBytes(me);
        long before = bean.getThreadAllocatedBytes(me);
        long sum = doAndAsk(x, CALLS);
        long made = bean.getThreadAllocatedBytes(me) - before;
        System.out.println(CALLS + " times each call: " + made + " bytes made (the answers together " + sum + ")");
        Check.due("calls make no rows", made <= NOISE, true);
    }

    public static void main(String[] args) throws IllegalAccessException {
        fits("a new object", room(new SpineDesks()));
        SpineDesks x = most();
        RoomTest full = room(x);
        fits("an object with all that it may hold", full);
        nothingIsMade(x);
        Check.due("no object more behind the calls", room(x).objects, full.objects);
        Check.due("no element more behind the calls", room(x).elements, full.elements);
        Check.end();
    }
}
