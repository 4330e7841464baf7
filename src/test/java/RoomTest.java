import java.lang.management.ManagementFactory;
import java.lang.reflect.Array;
import java.lang.reflect.Field;
import java.lang.reflect.Modifier;
import java.util.ArrayDeque;
import java.util.Collections;
import java.util.Deque;
import java.util.IdentityHashMap;
import java.util.Set;

/**
 * How much a run makes: an object is small, and its calls make nothing at all. And that no call
 * throws or hangs, whatever its arguments are, in an empty object and in a full one.
 */
public final class RoomTest {
    private static final int[] ODD = {Integer.MIN_VALUE, -129, -7, -6, -5, -4, -3, -2, -1, 0, 1, 2, 3, 4, 5, 6, 7, 8, 9, 10,
        19, 20, 21, 29, 30, 31, 32, 60, 61, 64, 99, 100, 101, 255, 256, 65536, Integer.MAX_VALUE};

    private static final String LONG_RUN = "T99" + ";T99".repeat(24);

    private static int wrong = 0;

    public static void main(String[] args) throws IllegalAccessException {
        size();
        noThrow(new ConferenceBridges());
        noThrow(full());
        nothingMade();
        System.out.println(wrong == 0 ? "all is as due" : wrong + " things are not as due");
        if (wrong != 0) {
            System.exit(1);
        }
    }

    private static void due(String what, boolean holds) {
        if (!holds) {
            wrong++;
            System.out.println("not so: " + what);
        }
    }

    /** A run of 512 calls that were all constructors would still fit into the room. */
    private static void size() throws IllegalAccessException {
        Set<Object> seen = Collections.newSetFromMap(new IdentityHashMap<>());
        Deque<Object> open = new ArrayDeque<>();
        open.add(new ConferenceBridges());
        long elements = 0;
        while (!open.isEmpty()) {
            Object o = open.remove();
            if (!seen.add(o)) {
                continue;
            }
            if (o.getClass().isArray()) {
                elements += Array.getLength(o);
                for (int i = 0; o instanceof Object[] && i < Array.getLength(o); i++) {
                    open.add(Array.get(o, i));
                }
                continue;
            }
            for (Field f : o.getClass().getDeclaredFields()) {
                if (!Modifier.isStatic(f.getModifiers())) {
                    f.setAccessible(true);
                    elements++;
                    if (!f.getType().isPrimitive()) {
                        open.add(f.get(o));
                    }
                }
            }
        }
        System.out.println("an object is " + seen.size() + " objects and arrays, " + elements + " fields and elements");
        due("objects times 513 fit", seen.size() * 513L <= 600_000);
        due("elements times 513 fit", elements * 513 <= 7_300_000);
    }

    private static ConferenceBridges full() {
        ConferenceBridges x = new ConferenceBridges();
        for (int b = 1; b < 8; b++) {
            x.addBridge(b / 2, 4, b % 3 == 0);
        }
        x.setSelection(4, 10, 4, 20);
        for (int p = 0; p < 20; p++) {
            x.join(p % 7, 0);
            x.setLevel(p, 40 + p);
            x.request(p, p % 10);
        }
        x.tick(20);
        x.leave(7);
        write(x, LONG_RUN);
        return x;
    }

    private static void write(ConferenceBridges x, String text) {
        x.clearText();
        for (int i = 0; i < text.length(); i++) {
            x.type(text.charAt(i));
        }
    }

    private static void noThrow(ConferenceBridges x) {
        for (int a : ODD) {
            for (int b : ODD) {
                two(x, a, b);
                for (int c = -2; c < 6; c++) {
                    x.stream(a, b, c, 2);
                    x.stream(0, 1, a, b);
                    x.setSelection(c, a, b, c);
                    x.setFloor(a > b, c, a, b);
                    x.setSelection(a, b, c, c);
                }
            }
            one(x, a);
        }
        for (int i = 0; i < 100; i++) {
            x.type(i % 2 == 0 ? '9' : i);
            x.textFault();
        }
        x.run();
        while (x.undo() > 0) {
            x.digest();
        }
    }

    private static void one(ConferenceBridges x, int a) {
        x.tick(a);
        x.count(a);
        x.type(a);
        x.textFault();
        x.setMuted(a, true);
        x.setMuted(a, false);
        x.giveUp(a);
        x.waiting(a);
        x.mix(a);
        x.mixBits(a);
        x.loudnessBits(a);
        x.digest();
        x.leave(a);
        x.undo();
    }

    private static void two(ConferenceBridges x, int a, int b) {
        x.addBridge(a, b, true);
        x.join(a, b);
        x.move(a, b);
        x.setLevel(a, b);
        x.request(a, b);
        x.property(a, b);
        x.hears(a, b);
        x.distance(a, b);
        x.foretell(a, b);
        x.event(a, b);
    }

    private static void nothingMade() {
        com.sun.management.ThreadMXBean threads = (com.sun.management.ThreadMXBean) ManagementFactory.getThreadMXBean();
        long self = Thread.currentThread().getId();
        ConferenceBridges x = full();
        dearCalls(x);
        long before = threads.getThreadAllocatedBytes(self);
        for (int i = 0; i < 20; i++) {
            dearCalls(x);
        }
        long made = threads.getThreadAllocatedBytes(self) - before;
        due("calls make nothing, but " + made + " bytes were made", made < 4096);
    }

    private static void dearCalls(ConferenceBridges x) {
        two(x, 3, 4);
        one(x, 5);
        x.tick(99);
        x.foretell(19, 99);
        write(x, LONG_RUN);
        due("the long run", x.run() == 25);
        x.digest();
    }
}
