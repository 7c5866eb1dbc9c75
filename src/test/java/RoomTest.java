import java.lang.management.ManagementFactory;
import java.lang.reflect.Array;
import java.lang.reflect.Field;
import java.lang.reflect.Modifier;
import java.util.ArrayDeque;
import java.util.Collections;
import java.util.Deque;
import java.util.IdentityHashMap;
import java.util.Set;

/** All calls of a run share one room: a new object is small, and no call makes anything. */
public final class RoomTest {
    private static final Check c = new Check();

    public static void main(String[] args) throws IllegalAccessException {
        newObjectIsSmall();
        callsMakeNothing();
        c.end();
    }

    private static void newObjectIsSmall() throws IllegalAccessException {
        Set<Object> met = Collections.newSetFromMap(new IdentityHashMap<>());
        Deque<Object> open = new ArrayDeque<>();
        open.add(new SevenPlates());
        int places = 0;
        while (!open.isEmpty()) {
            Object each = open.poll();
            if (!met.add(each)) continue;
            places += each.getClass().isArray() ? openArray(each, open) : openFields(each, open);
        }
        System.out.println("a new object: " + met.size() + " objects and arrays, " + places + " fields and elements");
        c.holds("objects", met.size() <= 100);
        c.holds("fields and elements", places <= 3000);
    }

    private static int openArray(Object array, Deque<Object> open) {
        int length = Array.getLength(array);
        for (int i = 0; i < length && !array.getClass().getComponentType().isPrimitive(); i++) {
            if (Array.get(array, i) != null) open.add(Array.get(array, i));
        }
        return length;
    }

    private static int openFields(Object each, Deque<Object> open) throws IllegalAccessException {
        int count = 0;
        for (Field f : each.getClass().getDeclaredFields()) {
            if (Modifier.isStatic(f.getModifiers())) continue;
            f.setAccessible(true);
            count++;
            if (!f.getType().isPrimitive() && f.get(each) != null) open.add(f.get(each));
        }
        return count;
    }

    private static void callsMakeNothing() {
        com.sun.management.ThreadMXBean bean = (com.sun.management.ThreadMXBean) ManagementFactory.getThreadMXBean();
        long id = Thread.currentThread().getId();
        long sum = calls(new SevenPlates());
        SevenPlates x = new SevenPlates();
        long before = bean.getThreadAllocatedBytes(id);
        sum -= calls(x);
        long made = bean.getThreadAllocatedBytes(id) - before;
        c.due("the same calls give the same answers", sum, 0);
        c.holds("calls made " + made + " bytes", made < 2000);
    }

    private static long calls(SevenPlates x) {
        long sum = 0;
        for (int g = 0; g < 4; g++) sum += x.guest(g, 3 * g, 2 + g, g, 1 + g);
        for (int round = 0; round < 9; round++) {
            for (int i = 0; i < 3; i++) sum += x.say('A' + (round + i) % 4);
            sum += x.judge(3) + x.used(0) + x.behind(0, 0) + x.hide() + x.trace() + x.fault() + x.eats(1) + x.alike(-1);
            sum += x.rows(6, round) + x.cup(1, 6) + x.look(6, 1) + x.belief(6, -1, 0) + x.lay(1) + x.lock(0, 5);
            sum += x.year(round, 60, 0) + x.image(0) + x.restore(0) + x.told(13) + x.state(1, 0);
            sum += round % 3 == 2 ? x.done() : x.wipe();
            sum += x.seen(round % 7, 9 - round) + x.thing(round % 7, 0, round);
            sum += round % 2 == 0 ? x.forget() : x.things(7 - round % 3);
        }
        return sum + x.leave(0);
    }
}
