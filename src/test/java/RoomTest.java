import java.lang.management.ManagementFactory;
import java.lang.reflect.Array;
import java.lang.reflect.Field;
import java.lang.reflect.Modifier;
import java.util.IdentityHashMap;
import java.util.Map;
import java.util.Random;

/** An object keeps to its room: what it is made of, and that calls make nothing more. */
public final class RoomTest {
    private static final Check CHECK = new Check("RoomTest");
    private static long objects;
    private static long elements;

    public static void main(String[] args) throws IllegalAccessException {
        WordAlgebra x = new WordAlgebra();
        walk(x, new IdentityHashMap<>());
        CHECK.due("no more than 1,000 objects: " + objects, objects <= 1000, true);
        CHECK.due("no more than 300,000 elements: " + elements, elements <= 300000, true);
        com.sun.management.ThreadMXBean threads = (com.sun.management.ThreadMXBean) ManagementFactory.getThreadMXBean();
        calls(x);
        long before = threads.getThreadAllocatedBytes(Thread.currentThread().getId());
        int made = calls(x);
        long after = threads.getThreadAllocatedBytes(Thread.currentThread().getId());
        CHECK.due("calls make no objects (bytes for each): " + (after - before) / made, after - before < 20000, true);
        CHECK.end();
    }

    private static void walk(Object o, Map<Object, Boolean> seen) throws IllegalAccessException {
        if (o == null || seen.put(o, true) != null) {
            return;
        }
        objects++;
        if (o.getClass().isArray()) {
            elements += Array.getLength(o);
            for (int i = 0; i < Array.getLength(o) && !o.getClass().getComponentType().isPrimitive(); i++) {
                walk(Array.get(o, i), seen);
            }
            return;
        }
        for (Field f : o.getClass().getDeclaredFields()) {
            if (!Modifier.isStatic(f.getModifiers())) {
                elements++;
                f.setAccessible(true);
                if (!f.getType().isPrimitive()) {
                    walk(f.get(o), seen);
                }
            }
        }
    }

    private static final int[][] TEXT = {tell("prime 2;letter x;let"), tell("ter y;law x y = y x;")};
    private static final int[][] SUM = {tell("(x + y)(y x - 3 x) +1")};

    private static int[] tell(String part) {
        return Check.fiveFrom(part.getBytes(java.nio.charset.StandardCharsets.ISO_8859_1), 0);
    }

    private static void feed(WordAlgebra x, int[][] text) {
        for (int[] five : text) {
            x.feed(five[0], five[1], five[2], five[3], five[4]);
        }
    }

    private static int calls(WordAlgebra x) {
        Random random = new Random(1);
        int all = 40;
        for (int i = 0; i < all; i++) {
            feed(x, TEXT);
            x.read();
            feed(x, SUM);
            x.element(0);
            x.add(1, 0, 0, 2);
            x.multiply(2, 0, 1);
            x.commute(3, 0, 1);
            x.plain(2);
            x.power(0);
            x.alike(0, 1);
            x.hold(random.nextInt(3));
            x.restore(0);
            for (int d = 0; d < 8; d++) {
                x.size(d);
                x.normal(d, 1);
                x.baseAt(d, 0);
                x.dual(d);
                x.inverse(d);
                x.centre(d);
                x.rank(0, d, true);
                x.chains(2, d);
            }
            x.closed();
            x.left(60);
            x.growth();
            x.bent();
            x.points();
            x.modules();
            x.trace(0);
            x.count(7);
        }
        return all * 80;
    }
}
