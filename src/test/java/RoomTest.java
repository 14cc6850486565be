import java.lang.management.ManagementFactory;
import java.lang.reflect.Array;
import java.lang.reflect.Field;
import java.lang.reflect.Modifier;
import java.util.ArrayDeque;
import java.util.Collections;
import java.util.Deque;
import java.util.IdentityHashMap;
import java.util.Set;

/**
 * What an object and its calls take of the room that all calls of a run share: a new object stays so small
 * that 512 of them would fit into 7.3 million fields and elements, and calls make nothing at all.
 */
final class RoomTest {
    private static final long MOST_ELEMENTS = 7_300_000 / 512;
    private static final long MOST_OBJECTS = 600_000 / 512;

    private long objects;
    private long elements;

    public static void main(String[] args) throws IllegalAccessException {
        TypedMill mill = new TypedMill();
        RoomTest fresh = new RoomTest();
        fresh.count(mill);
        System.out.println(fresh.objects + " objects, " + fresh.elements + " fields and elements");
        Expect.yes("few objects: " + fresh.objects, fresh.objects <= MOST_OBJECTS);
        Expect.yes("few elements: " + fresh.elements, fresh.elements <= MOST_ELEMENTS);

        int program = prepare(mill);
        useAll(mill, program);
        com.sun.management.ThreadMXBean threads =
                (com.sun.management.ThreadMXBean) ManagementFactory.getThreadMXBean();
        long self = Thread.currentThread().getId();
        long before = threads.getThreadAllocatedBytes(self);
        for (int k = 0; k < 40; k++) {
            useAll(mill, program);
        }
        long made = threads.getThreadAllocatedBytes(self) - before;
        System.out.println(made + " bytes made by 40 rounds of calls");
        Expect.yes("calls make nothing: " + made + " bytes", made < 100_000);

        RoomTest used = new RoomTest();
        used.count(mill);
        Expect.due("objects after all calls", used.objects, fresh.objects);
        Expect.due("elements after all calls", used.elements, fresh.elements);
        Expect.end();
    }

    private static int prepare(TypedMill mill) {
        int plain = Build.functionType(mill, 0, 0);
        int n = Build.variable(mill, 0);
        int again = Build.call(mill, Build.variable(mill, 1), Build.minus(mill, n, Build.constant(mill, 1)));
        int body = Build.choice(mill, n, Build.first(mill, Build.pair(mill, n, n)), again);
        return Build.call(mill, Build.lambda(mill, plain, body), Build.constant(mill, 20));
    }

    private static void useAll(TypedMill mill, int program) {
        mill.type(1, 0, 0, 0);
        mill.size(0);
        mill.make(1, 99, 0, 0, 0);
        mill.is(program, 0);
        mill.evaluate(program);
        mill.steps();
        mill.compile(program);
        mill.check();
        mill.run(1000);
        mill.clear();
        mill.block(0, -1, -1);
        mill.add(4, 1, 1, 1);
        mill.add(0, 2, 1, 0);
        mill.add(12, 0, 0, 0);
        mill.check();
        mill.run(10);
        mill.state();
        mill.look(0, 0);
        mill.instruction(0, 0);
        mill.register(1, 1);
    }

    private void count(Object root) throws IllegalAccessException {
        Set<Object> seen = Collections.newSetFromMap(new IdentityHashMap<>());
        Deque<Object> open = new ArrayDeque<>();
        open.add(root);
        while (!open.isEmpty()) {
            Object one = open.remove();
            if (!seen.add(one)) {
                continue;
            }
            objects++;
            if (one.getClass().isArray()) {
                elements += Array.getLength(one);
            } else {
                countFields(one, open);
            }
        }
    }

    private void countFields(Object one, Deque<Object> open) throws IllegalAccessException {
        for (Field field : one.getClass().getDeclaredFields()) {
            if (Modifier.isStatic(field.getModifiers())) {
                continue;
            }
            elements++;
            field.setAccessible(true);
            Object held = field.get(one);
            if (!field.getType().isPrimitive() && held != null) {
                open.add(held);
            }
        }
    }
}
