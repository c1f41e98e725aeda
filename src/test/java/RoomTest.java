import java.lang.management.ManagementFactory;
import java.lang.reflect.Array;
import java.lang.reflect.Field;
import java.lang.reflect.Modifier;
import java.util.Collections;
import java.util.IdentityHashMap;
import java.util.Set;

/** All calls of one run live in one room: an object's rows are made with it and are few, and no call makes anything. */
public final class RoomTest extends Bench {
    private static final int MOST_OBJECTS = 30, MOST_CELLS = 450;

    private static final Set<Object> found = Collections.newSetFromMap(new IdentityHashMap<>());
    private static int cells = 0;

    /** Counts what hangs on an object: objects and arrays, and their fields and elements. */
    private static void count(Object o) throws IllegalAccessException {
        if (o == null || !found.add(o)) return;
        if (o.getClass().isArray()) {
            cells += Array.getLength(o);
            if (o instanceof Object[] all) for (Object one : all) count(one);
            return;
        }
        for (Field f : o.getClass().getDeclaredFields()) {
            if (Modifier.isStatic(f.getModifiers())) continue;
            cells++;
            f.setAccessible(true);
            if (!f.getType().isPrimitive()) count(f.get(o));
        }
    }

    /** Every call, most of them as they are taken; 74 calls. */
    private static long callAll(BellNames x) {
        long sum = x.alp(0, 0, 0, 28) + x.alp(0, 0, 0, 27) + x.winds() + x.choir(-1) + x.trace() + x.fault();
        for (int b = 0; b < 5; b++) {
            sum += x.ofBell(b, b % 4) + x.cheer(b, b % 4) + x.recast(b, 2 * b) + x.go(b, b) + x.sound(b, NONE);
            sum += x.family(b) + x.cast(b) + x.reading(b, 0, 4) + x.notes(b) + x.kinds(b);
        }
        sum += x.blow(1) + x.heard(4) + x.taken(4, 4) + x.meant(4, 4) + x.goings(1, 2, 0, 2, 3);
        return sum + x.post(31) + x.call(31, 0) + x.back(5) + x.odds(4, 4, 0) + x.sheet(2, 1, 60) + x.put(2, 59, 7)
            + x.copy(2, 0, 2, 1, 59) + x.cell(2, 59, 1) + x.lose(2) + x.tell(2) + x.echo(2) + x.as(0, 2) + x.many(0);
    }

    private static BellNames made() {
        BellNames x = on("b12;p310;k552;h873;p191;k440");
        write(x, 1, 2, 0, 0, 5, 1, 0);
        return x;
    }

    private static long madeBytes() {
        com.sun.management.ThreadMXBean bean = (com.sun.management.ThreadMXBean) ManagementFactory.getThreadMXBean();
        return bean.getThreadAllocatedBytes(Thread.currentThread().getId());
    }

    /** Bytes that so many rounds of calls make; six rounds an object stay below its 512 calls. */
    private static long bytesOf(BellNames[] objects, int rounds) {
        long ahead = madeBytes();
        for (BellNames x : objects) for (int round = 0; round < rounds; round++) callAll(x);
        return madeBytes() - ahead;
    }

    public static void main(String[] args) throws Exception {
        about("what an object takes");
        count(new BellNames());
        due("too many objects: " + found.size(), found.size() <= MOST_OBJECTS ? 1 : 0, 1);
        due("too many fields and elements: " + cells, cells <= MOST_CELLS ? 1 : 0, 1);
        found.clear();
        cells = 0;
        BellNames used = made();
        for (int round = 0; round < 6; round++) callAll(used);
        count(used);
        due("too many objects behind calls: " + found.size(), found.size() <= MOST_OBJECTS ? 1 : 0, 1);
        due("too many fields and elements behind calls: " + cells, cells <= MOST_CELLS ? 1 : 0, 1);

        about("what calls make");
        BellNames[] objects = new BellNames[1000];
        for (int k = 0; k < objects.length; k++) objects[k] = made();
        bytesOf(objects, 1);
        long bytes = bytesOf(objects, 5);
        // 5000 rounds: if one call of each made the least of objects, these were 80,000 bytes; asking itself makes a few.
        due("bytes made: " + bytes, bytes < 10000 ? 1 : 0, 1);
        end();
    }
}
