import com.sun.management.ThreadMXBean;
import java.lang.management.ManagementFactory;
import java.lang.reflect.Array;
import java.lang.reflect.Field;
import java.lang.reflect.Modifier;
import java.util.Collections;
import java.util.IdentityHashMap;
import java.util.Set;

/** All is made in the constructor, and that is little: no call makes an object or an array. */
public final class RoomTest {
    private static final int MOST_FIELDS = 12000;
    private static final int MOST_OBJECTS = 120;

    private static int objects = 0;
    private static int fields = 0;

    public static void main(String[] args) throws Exception {
        Check check = new Check();
        count(new HeatTown(), Collections.newSetFromMap(new IdentityHashMap<>()));
        System.out.println("a new object: " + objects + " objects and arrays, " + fields + " fields and elements");
        check.due("few objects", objects <= MOST_OBJECTS, true);
        check.due("few fields and elements", fields <= MOST_FIELDS, true);
        ThreadMXBean threads = (ThreadMXBean) ManagementFactory.getThreadMXBean();
        long id = Thread.currentThread().getId();
        run(new HeatTown());
        HeatTown town = new HeatTown();
        long before = threads.getThreadAllocatedBytes(id);
        run(town);
        long made = threads.getThreadAllocatedBytes(id) - before;
        // Asking makes some bytes itself; the 400 calls together are to make no more.
        check.due("no call makes anything, all made " + made + " bytes", made < 400, true);
        check.finish();
    }

    private static void count(Object o, Set<Object> seen) throws Exception {
        if (o == null || o instanceof String || !seen.add(o)) {
            return;
        }
        objects++;
        if (o.getClass().isArray()) {
            fields += Array.getLength(o);
            return;
        }
        for (Field f : o.getClass().getDeclaredFields()) {
            if (!Modifier.isStatic(f.getModifiers())) {
                fields++;
                f.setAccessible(true);
                if (!f.getType().isPrimitive()) {
                    count(f.get(o), seen);
                }
            }
        }
    }

    private static void run(HeatTown t) {
        t.terms(5, 20);
        t.store(4000, 100);
        for (int n = 1; n < 12; n++) {
            t.node();
            t.pipe(n - 1, n, 60, 60, 20, true, false);
            t.house(n, 5, n);
        }
        t.pipe(0, 11, 10, 10, 5, true, true);
        t.boiler(200000, 30);
        t.row(0, 2, 24);
        for (int i = 0; i < 24; i++) {
            t.write(0, i, i);
        }
        t.paste(0, 0, 0, 1, 20);
        t.air(0);
        t.mill(0, 5);
        t.feed(1936027236, 540422176, 2003330414, 543254898, 1043676019);
        t.feed(1701733408, 959458657, 1769093988, 1919905824, 842021744);
        t.end(37);
        t.rules();
        t.fault();
        for (int i = 0; i < 20; i++) {
            t.plan(0);
            t.planned(3);
            t.go(20);
            t.ahead(48, i % 4);
            t.aheadOf(1, 0);
            t.flow(i);
            t.gets(1, 1);
            t.would(3, 4, 5, 0);
            t.cut(i, 1);
            t.meter(0, i % 2, i / 2, i);
            t.leak(0, i, 1, 0);
            t.unit(1, 1, 1);
            t.houseOf(1, 4);
            t.sums(1, 1);
            t.pipeOf(1, 5);
            t.sum(6);
            t.count(9);
            t.valve(i, 0, i % 2 == 0);
            t.burst(i, i % 3 == 0);
        }
        t.isolate(1);
        t.tear(0);
    }
}
