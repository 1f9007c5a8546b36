import java.lang.management.ManagementFactory;
import java.lang.reflect.Array;
import java.lang.reflect.Field;
import java.lang.reflect.Modifier;
import java.util.ArrayDeque;
import java.util.Collections;
import java.util.Deque;
import java.util.IdentityHashMap;
import java.util.Set;

/** All runs share one room: an object is small, and its calls make nothing. */
public final class RoomTest {
    private static final int MOST_OBJECTS = 100, MOST_FIELDS = 1500;
    private static final Check check = new Check();
    private static int sum = 0;

    public static void main(String[] args) throws ReflectiveOperationException {
        check.promise("the room");
        sizeOfAnObject();
        callsMakeNothing();
        check.finish("RoomTest");
    }

    private static void sizeOfAnObject() throws ReflectiveOperationException {
        Set<Object> seen = Collections.newSetFromMap(new IdentityHashMap<>());
        Deque<Object> open = new ArrayDeque<>();
        HatOrders x = new HatOrders();
        seen.add(x);
        open.add(x);
        int fields = 0;
        while (!open.isEmpty()) {
            Object next = open.pop();
            if (next.getClass().isArray()) {
                fields += Array.getLength(next);
                for (int i = 0; i < Array.getLength(next) && next instanceof Object[]; i++) {
                    meet(Array.get(next, i), seen, open);
                }
                continue;
            }
            for (Field field : next.getClass().getDeclaredFields()) {
                if (!Modifier.isStatic(field.getModifiers())) {
                    fields++;
                    field.setAccessible(true);
                    if (!field.getType().isPrimitive()) {
                        meet(field.get(next), seen, open);
                    }
                }
            }
        }
        System.out.println("an object: " + seen.size() + " objects and arrays, " + fields + " fields and elements");
        check.due("few objects", seen.size() <= MOST_OBJECTS);
        check.due("few fields", fields <= MOST_FIELDS);
    }

    private static void meet(Object met, Set<Object> seen, Deque<Object> open) {
        if (met != null && seen.add(met)) {
            open.add(met);
        }
    }

    private static void callsMakeNothing() {
        com.sun.management.ThreadMXBean meter = (com.sun.management.ThreadMXBean) ManagementFactory.getThreadMXBean();
        long thread = Thread.currentThread().getId();
        HatOrders[] all = new HatOrders[1000];
        for (int i = 0; i < all.length; i++) {
            all[i] = new HatOrders();
        }
        byte[] text = "h2;f2,1;s1,2;t1,3;w1,0;b1,4;o9;o8;".getBytes();
        everyCall(new HatOrders(), text);
        meter.getThreadAllocatedBytes(thread);
        long before = meter.getThreadAllocatedBytes(thread);
        for (HatOrders x : all) {
            everyCall(x, text);
        }
        long made = meter.getThreadAllocatedBytes(thread) - before;
        System.out.println("1000 times every call: " + made + " bytes made, sum " + sum);
        // The meter itself may make a little; one object a round would be 16000 bytes at least.
        check.due("calls make nothing", made < 8000);
    }

    private static void everyCall(HatOrders x, byte[] text) {
        for (byte letter : text) {
            x.feed(letter);
        }
        sum += x.town() + x.fault() + x.row(0, 0, 16) + x.row(1, 0, 40) + x.set(0, 1, -1) + x.copy(0, 0, 1, 3, 9);
        sum += x.steps(20) + x.wind(3) + x.give(2) + x.order(4) + x.back(1) + x.undo() + x.head(0, 0) + x.orderHas(0, 1);
        sum += x.hat(1) + x.who(60) + x.gets(4) + x.ever(60) + x.round(0) + x.done(0) + x.first() + x.by(0, 60);
        sum += x.toGive(2, 0) + x.winds(1, 60) + x.lot(1, 60, 0) + x.seen(0, 0, 16, 0) + x.keeps(0, 0, 0, 16);
        sum += x.image(0) + x.restore(0) + x.kind(0) + x.as(0, 3) + x.ask(1, 0) + x.trace(0) + x.count(0) + x.status();
        sum += x.drop(0) + x.drop(0) + x.town();
    }
}
