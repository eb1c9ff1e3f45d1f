import java.lang.management.ManagementFactory;
import java.lang.reflect.Array;
import java.lang.reflect.Field;
import java.lang.reflect.Modifier;
import java.util.ArrayDeque;
import java.util.Deque;
import java.util.IdentityHashMap;
import java.util.Map;
import com.sun.management.ThreadMXBean;

/**
 * The room that a run has is for all its calls: some 600,000 objects and arrays, 7.3 million fields and
 * elements. A kernel makes its rows when it is made, and calls make nothing but the exceptions due.
 */
final class RoomTest {
    private static final long OBJECTS = 600_000;
    private static final long ELEMENTS = 7_300_000;
    /** So many kernels that are made in one run must find room. */
    private static final int KERNELS = 100;
    private static final int ROUNDS = 200;

    private static long objects;
    private static long elements;

    public static void main(String[] args) throws IllegalAccessException {
        StaticKernel kernel = new StaticKernel();
        measure(kernel);
        long objectsAtFirst = objects;
        long elementsAtFirst = elements;
        System.out.println("a kernel has " + objects + " objects, " + elements + " fields and elements");
        Check.yes("objects: " + objects, objects * KERNELS <= OBJECTS);
        Check.yes("fields and elements: " + elements, elements * KERNELS <= ELEMENTS);
        useAll(kernel, words(WildTest.PLAN));
        measure(kernel);
        Check.same("objects when it was used", objects, objectsAtFirst);
        Check.same("fields and elements when it was used", elements, elementsAtFirst);
        callsMakeNothing(kernel);
        Check.end("RoomTest");
    }

    // ---- what a kernel has

    private static void measure(StaticKernel kernel) throws IllegalAccessException {
        objects = 0;
        elements = 0;
        Map<Object, Object> seen = new IdentityHashMap<>();
        Deque<Object> open = new ArrayDeque<>();
        open.add(kernel);
        while (!open.isEmpty()) {
            Object one = open.remove();
            if (seen.put(one, one) != null || one instanceof Enum) {
                continue;
            }
            objects++;
            if (one.getClass().isArray()) {
                measureArray(one, open);
            } else {
                measureFields(one, open);
            }
        }
    }

    private static void measureArray(Object array, Deque<Object> open) {
        int length = Array.getLength(array);
        elements += length;
        if (array instanceof Object[]) {
            for (Object one : (Object[]) array) {
                if (one != null) {
                    open.add(one);
                }
            }
        }
    }

    private static void measureFields(Object object, Deque<Object> open) throws IllegalAccessException {
        for (Field field : object.getClass().getDeclaredFields()) {
            if (Modifier.isStatic(field.getModifiers())) {
                continue;
            }
            elements++;
            field.setAccessible(true);
            Object value = field.get(object);
            if (!field.getType().isPrimitive() && value != null) {
                open.add(value);
            }
        }
    }

    // ---- what calls make

    /** Bytes, not objects, can be seen; one object a round would be ROUNDS times sixteen bytes at least. */
    private static void callsMakeNothing(StaticKernel kernel) {
        ThreadMXBean threads = (ThreadMXBean) ManagementFactory.getThreadMXBean();
        long self = Thread.currentThread().getId();
        int[] words = words(WildTest.PLAN);
        useAll(kernel, words);
        long before = threads.getThreadAllocatedBytes(self);
        for (int round = 0; round < ROUNDS; round++) {
            useAll(kernel, words);
        }
        long made = threads.getThreadAllocatedBytes(self) - before;
        Check.yes("bytes that " + ROUNDS + " rounds of all calls made: " + made, made < ROUNDS * 16L);
    }

    private static int[] words(String text) {
        int[] words = new int[(text.length() + 19) / 20 * 5];
        for (int i = 0; i < words.length * 4; i++) {
            words[i / 4] = words[i / 4] << 8 | (i < text.length() ? text.charAt(i) : ' ');
        }
        return words;
    }

    private static void useAll(StaticKernel kernel, int[] words) {
        for (int i = 0; i < words.length; i += 5) {
            kernel.feed(words[i], words[i + 1], words[i + 2], words[i + 3], words[i + 4]);
        }
        Check.same("build", kernel.build(words.length * 4), 0);
        Check.same("start", kernel.start(0), 0);
        for (int number = -1; number < 5; number++) {
            askAll(kernel, number);
            serveAll(kernel, number);
            kernel.tick(number, 50);
            kernel.call(number);
        }
        kernel.call(1);
        Check.same("halt", kernel.halt(1), 0);
        kernel.feed(0x6d6f6465, 0x20206d20, 0x6d6f6465, 0x20206d20, 0x20202020);
        Check.same("build with a FAULT", kernel.build(20), StaticKernel.NONE);
    }

    private static void askAll(StaticKernel kernel, int what) {
        kernel.fault(what);
        kernel.many(what);
        kernel.atWork();
        kernel.running();
        kernel.row(what, 0);
        kernel.count(what);
        kernel.name(0, 0, 0);
        kernel.task(0, what);
        kernel.bits(0, what);
        kernel.resource(0, what);
        kernel.isr(0, what);
        kernel.counter(0, what);
        kernel.alarm(0, what);
        kernel.note(0);
    }

    private static void serveAll(StaticKernel kernel, int number) {
        for (int service = 1; service < Services.MANY; service++) {
            Services.serve(kernel, service, number, 1, 0);
        }
    }
}
