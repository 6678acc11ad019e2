import com.sun.management.ThreadMXBean;
import java.lang.management.ManagementFactory;
import java.lang.reflect.Array;
import java.lang.reflect.Field;
import java.lang.reflect.Modifier;
import java.util.Collections;
import java.util.IdentityHashMap;
import java.util.Map;
import java.util.Set;
import java.util.function.LongSupplier;

/**
 * What a run of 512 calls makes must fit in one room: what the constructor makes, and 512 times what the dearest call
 * makes, stay below 600,000 objects and arrays and 7.3 million fields and elements.
 */
public final class RoomTest {
    private static final long MOST_OBJECTS = 600_000;
    private static final long MOST_ELEMENTS = 7_300_000;
    private static final int CALLS = 512;
    // No object is smaller, and no element smaller than a byte: so bytes tell of calls what they make at most.
    private static final long SMALLEST_OBJECT = 16;
    private static final Check CHECK = new Check("RoomTest");
    private static final ThreadMXBean BEAN = (ThreadMXBean) ManagementFactory.getThreadMXBean();

    private static long dearest;
    private static String dearestCall = "none";

    public static void main(String[] args) throws IllegalAccessException {
        // What the machine itself makes as a call comes for the first time is not the class's.
        allCalls();
        dearest = 0;
        dearestCall = "none";
        allCalls();
        int[][] sizes = {{2, 1}, {2, 32}, {16, 1}, {16, 32}};
        for (int[] size : sizes) {
            constructor(size[0], size[1]);
        }
        System.out.println("dearest call: " + dearestCall + ", " + dearest + " bytes");
        CHECK.same("bytes that the dearest call makes, " + dearestCall, dearest, 0);
        CHECK.end();
    }

    private static long made() {
        return BEAN.getThreadAllocatedBytes(Thread.currentThread().getId());
    }

    private static void constructor(int parties, int width) throws IllegalAccessException {
        long before = made();
        ShareHouse house = new ShareHouse(parties, width);
        long bytes = made() - before;
        Room room = new Room();
        room.enter(house);
        String what = "ShareHouse(" + parties + ", " + width + "): " + room.objects + " objects and arrays, " + room.elements
            + " fields and elements, " + bytes + " bytes";
        System.out.println(what);
        CHECK.holds("nothing made but what is kept: " + what, bytes <= room.bytes + room.bytes / 100);
        CHECK.holds("objects: " + what, 2 * (room.objects + CALLS * (dearest / SMALLEST_OBJECT)) < MOST_OBJECTS);
        CHECK.holds("elements: " + what, 2 * (room.elements + CALLS * dearest) < MOST_ELEMENTS);
    }

    private static long call(String what, LongSupplier it) {
        long before = made();
        long answer = it.getAsLong();
        long bytes = made() - before;
        if (bytes > dearest) {
            dearest = bytes;
            dearestCall = what;
        }
        return answer;
    }

    private static void allCalls() {
        for (Map.Entry<String, String> text : Largest.sound().entrySet()) {
            circuitCalls(text.getKey(), text.getValue());
        }
        for (Map.Entry<String, String> text : Largest.faulty().entrySet()) {
            ShareHouse house = new ShareHouse(16, 32);
            Check.put(house, text.getValue());
            CHECK.holds(text.getKey(), call("compile of " + text.getKey(), house::compile) > 0);
        }
        tapeCalls(new ShareHouse(16, 32));
        dealCalls(new ShareHouse(16, 32), Largest.circuit());
    }

    /** A new object for each text: else one would find the rows that another one's call had made. */
    private static void circuitCalls(String name, String text) {
        ShareHouse house = new ShareHouse(16, 32);
        Check.put(house, text);
        CHECK.same("compile of " + name, call("compile of " + name, house::compile), 0);
        CHECK.same("truth of " + name, call("truth of " + name, () -> house.truth(0)), house.truth(0));
        CHECK.holds("deal of " + name, call("deal of " + name, () -> house.deal() ? 1 : 0) == 1);
        call("rush of " + name, () -> house.rush(100_000, 3));
    }

    private static void tapeCalls(ShareHouse house) {
        for (int i = 0; i < 201; i++) {
            call("feed", () -> {
                house.feed(0x20202020, 0x20202020, 0x20202020, 0x20202020, 0x20202020);
                return 0;
            });
            CHECK.same("end", call("end", () -> house.end(20)), i < 200 ? 20 * i + 20 : -1);
        }
        for (int i = 0; i < 33; i++) {
            call("draws", () -> house.draws(-1L, 64));
        }
        call("seed", () -> {
            house.seed(5);
            return 0;
        });
        call("compile of blanks", house::compile);
        for (int what = -1; what <= 15; what++) {
            int of = what;
            call("look", () -> house.look(of));
        }
    }

    private static void dealCalls(ShareHouse house, String text) {
        Check.put(house, text);
        CHECK.same("compile", call("compile", house::compile), 0);
        CHECK.same("LEVEL", house.look(3), 2000);
        for (int w = 0; w < house.look(5); w++) {
            int word = w;
            call("give", () -> house.give(word, -word) ? 1 : 0);
            call("input", () -> house.input(word, 2));
        }
        call("deal", () -> house.deal() ? 1 : 0);
        call("message", () -> house.message(100, 5));
        call("deliver", () -> house.deliver(200));
        for (int k = 0; k < 5; k++) {
            int by = 31 * k;
            CHECK.holds("rush", call("rush", () -> house.rush(100_000, by)) > 0);
            lookCalls(house);
        }
        CHECK.same("DONE", house.look(11), 16);
        CHECK.same("told", call("told", () -> house.told(15, 1)), call("truth", () -> house.truth(1)));
        call("a second deal", () -> house.deal() ? 1 : 0);
        lookCalls(house);
    }

    private static void lookCalls(ShareHouse house) {
        for (int what = 0; what <= 4; what++) {
            int of = what;
            call("gate", () -> house.gate(39_999, of));
            call("party", () -> house.party(15, of));
            call("dealt", () -> house.dealt(15, 39_990, of));
            call("literal", () -> house.literal(2, of));
            call("message", () -> house.message(0, of));
        }
        int last = house.party(15, 2) - 1;
        CHECK.holds("view", call("view", () -> house.view(15, last)) >= 0);
        call("share", () -> house.share(15, 48_191));
        call("told", () -> house.told(15, 2));
        call("truth", () -> house.truth(2));
    }

    /** Counts what can be reached from an object. */
    private static final class Room {
        private final Set<Object> seen = Collections.newSetFromMap(new IdentityHashMap<>());
        private long objects;
        private long elements;
        private long bytes;

        void enter(Object it) throws IllegalAccessException {
            if (it == null || !seen.add(it)) {
                return;
            }
            objects++;
            bytes += SMALLEST_OBJECT + 8;
            if (it.getClass().isArray()) {
                int length = Array.getLength(it);
                elements += length;
                bytes += (long) length * (it instanceof long[] ? 8 : it instanceof byte[] ? 1 : 4);
                return;
            }
            for (Field field : it.getClass().getDeclaredFields()) {
                if (!Modifier.isStatic(field.getModifiers())) {
                    elements++;
                    bytes += 8;
                    field.setAccessible(true);
                    if (!field.getType().isPrimitive()) {
                        enter(field.get(it));
                    }
                }
            }
        }
    }
}
