import java.lang.reflect.InvocationTargetException;
import java.lang.reflect.Method;
import java.util.TreeMap;
import java.util.function.Supplier;

/**
 * What the tests of the boundary cases share. Each case is a method of its own, without parameters,
 * named after the promise and the case: promise02_places_5_are_refused. No object gets more than the
 * 512 calls for which the document answers.
 */
abstract class Boundaries {
    static final int NONE = -1, BAD_INDEX = -2, BAD_VALUE = -3, BAD_STATE = -4, FULL = -5, WRONG_KIND = -6;
    static final int LEAST = Integer.MIN_VALUE, MOST = Integer.MAX_VALUE;

    private static final String NAME = "promise[0-9][0-9]_[A-Za-z0-9_]+";

    private static String test = "";
    private static int wrong = 0;

    interface Call {
        long on(ConferenceBridges x);
    }

    // ---- running the cases

    /** Runs every case of a class, which must have some for each promise from the first to the last. */
    static void runCases(Class<?> cases, int first, int last) throws IllegalAccessException {
        TreeMap<String, Method> byName = new TreeMap<>();
        for (Method m : cases.getDeclaredMethods()) {
            if (m.getName().matches(NAME)) {
                byName.put(m.getName(), m);
            }
        }
        for (int promise = first; promise <= last; promise++) {
            String prefix = String.format("promise%02d_", promise);
            test = prefix;
            due("a case of its own", byName.keySet().stream().anyMatch(n -> n.startsWith(prefix)) ? 1 : 0, 1);
        }
        int failed = 0;
        for (Method m : byName.values()) {
            failed += holds(m) ? 0 : 1;
        }
        System.out.println(byName.size() - failed + " passed, " + failed + " failed");
        if (wrong != 0) {
            System.exit(1);
        }
    }

    private static boolean holds(Method m) throws IllegalAccessException {
        test = m.getName();
        int before = wrong;
        m.setAccessible(true);
        try {
            m.invoke(null);
        } catch (InvocationTargetException e) {
            wrong++;
            System.out.println(test + ": threw " + e.getCause());
        }
        return wrong == before;
    }

    // ---- what is due

    static void due(String what, long got, long want) {
        if (got != want) {
            wrong++;
            System.out.println(test + ": " + what + " answered " + got + ", due is " + want);
        }
    }

    static void dueEvent(ConferenceBridges x, int event, int kind, int participant, int tick) {
        due("kind of event " + event, x.event(event, 0), kind);
        due("participant of event " + event, x.event(event, 1), participant);
        due("tick of event " + event, x.event(event, 2), tick);
    }

    /** That the call is refused with this code, and that nothing is changed by it. */
    static void refused(int code, Supplier<ConferenceBridges> world, Call call) {
        changesNothing(world, x -> {
            long answer = call.on(x);
            due("the call", answer, code);
            return answer;
        });
    }

    static void changesNothing(Supplier<ConferenceBridges> world, Call call) {
        dueSame("what there is", world, call, Boundaries::present);
        dueSame("who hears whom", world, call, Boundaries::heard);
        dueSame("the ticks that come", world, call, Boundaries::future);
        dueSame("the requests that come", world, call, Boundaries::requests);
        dueSame("the history", world, call, Boundaries::past);
        dueSame("the text", world, call, Boundaries::text);
    }

    private static void dueSame(String what, Supplier<ConferenceBridges> world, Call call, Call look) {
        ConferenceBridges called = world.get();
        call.on(called);
        due(what + " (a hash)", look.on(called), look.on(world.get()));
    }

    /** That the call is no error, and that undo() takes back it and nothing else. */
    static void undoable(Supplier<ConferenceBridges> world, Call call) {
        ConferenceBridges before = world.get();
        int kept = 0;
        while (before.undo() >= 0) {
            kept++;
        }
        ConferenceBridges x = world.get();
        due("the call is no error: it", call.on(x) >= 0 ? 1 : 0, 1);
        due("undo()", x.undo(), Math.min(kept, 4));
        due("what there is (a hash)", present(x), present(world.get()));
        x = world.get();
        call.on(x);
        x.undo();
        due("the ticks that come (a hash)", future(x), future(world.get()));
    }

    private static long present(ConferenceBridges x) {
        long hash = x.digest();
        for (int i = 0; i <= x.count(4); i++) {
            hash = 31 * hash + x.waiting(i);
        }
        int bridges = x.count(0);
        for (int bridge = 0; bridge < bridges; bridge++) {
            for (int neighbour = 0; neighbour < bridges; neighbour++) {
                for (int i = 0; x.stream(bridge, neighbour, i, 1) >= 0; i++) {
                    hash = 31 * hash + x.stream(bridge, neighbour, i, 1);
                    hash = 31 * hash + x.stream(bridge, neighbour, i, 2);
                }
            }
        }
        return hash;
    }

    private static long heard(ConferenceBridges x) {
        long hash = 17;
        int joined = x.count(1);
        for (int listener = 0; listener < joined; listener++) {
            for (int speaker = 0; speaker < joined; speaker++) {
                hash = 31 * hash + x.hears(listener, speaker);
            }
        }
        return hash;
    }

    private static long future(ConferenceBridges x) {
        long hash = 17;
        for (int i = 0; i < 30; i++) {
            hash = 31 * hash + x.tick(1);
            hash = 31 * hash + x.digest();
        }
        hash = 31 * hash + x.setSelection(1, 1, 4, 0);
        hash = 31 * hash + x.setFloor(true, 1, 1, 0);
        return 31 * hash + x.join(0, 0);
    }

    /** Their order shows the priorities that there were before. */
    private static long requests(ConferenceBridges x) {
        long hash = 17;
        for (int p = x.count(1) - 1; p >= 0; p--) {
            hash = 31 * hash + x.request(p, 4);
        }
        for (int i = 0; i < x.count(4); i++) {
            hash = 31 * hash + x.waiting(i);
        }
        return hash;
    }

    private static long past(ConferenceBridges x) {
        long hash = x.digest();
        for (int left = x.undo(); left >= 0; left = x.undo()) {
            hash = 31 * (31 * hash + left) + x.digest();
        }
        return hash;
    }

    private static long text(ConferenceBridges x) {
        long hash = x.textFault();
        hash = 31 * hash + x.run();
        hash = 31 * hash + x.digest();
        return 31 * hash + x.clearText();
    }

    // ---- objects to begin with

    static ConferenceBridges fresh() {
        return new ConferenceBridges();
    }

    /** So many phones at bridge 0, all with the same level. */
    static ConferenceBridges phones(int many, int level) {
        ConferenceBridges x = new ConferenceBridges();
        for (int p = 0; p < many; p++) {
            x.join(0, 0);
            x.setLevel(p, level);
        }
        return x;
    }

    /** So many bridges in a line. */
    static ConferenceBridges line(int bridges, int places) {
        ConferenceBridges x = new ConferenceBridges();
        for (int bridge = 1; bridge < bridges; bridge++) {
            x.addBridge(bridge - 1, places, false);
        }
        return x;
    }

    /**
     * Seven bridges, two of them for phones only; 19 have joined, four of them have left; the floor is
     * on, with two holders and five requests; streams are under way; events and history are full.
     */
    static ConferenceBridges lively() {
        ConferenceBridges x = new ConferenceBridges();
        int[] parents = {0, 0, 1, 1, 2, 5};
        for (int parent : parents) {
            x.addBridge(parent, 1 + x.count(0) % 4, x.count(0) == 2 || x.count(0) == 4);
        }
        int[] homes = {0, 1, 2, 3, 5, 6};
        for (int p = 0; p < 19; p++) {
            x.join(homes[p % 6], homes[p % 6] == 2 ? 0 : p % 2);
            x.setLevel(p, 20 + p * 11 % 37);
        }
        x.setSelection(4, 12, 6, 3);
        x.tick(1);
        x.setSelection(2, 12, 6, 3);
        x.tick(2);
        x.setFloor(true, 2, 4, 6);
        for (int p = 9; p > 2; p--) {
            x.request(p, p % 4);
        }
        x.tick(2);
        for (int p = 11; p < 15; p++) {
            x.leave(p);
        }
        x.setMuted(8, true);
        x.setLevel(1, 0);
        x.move(0, 1);
        x.tick(1);
        write(x, "L1 40;U8;T3;M0 3");
        return x;
    }

    /** Eight bridges and 20 participants, 6 of them at bridge 1, which is for phones only, 6 at bridge 0. */
    static ConferenceBridges full() {
        ConferenceBridges x = new ConferenceBridges();
        for (int bridge = 1; bridge < 8; bridge++) {
            x.addBridge(bridge / 2, 4, bridge == 1 || bridge == 7);
        }
        for (int p = 0; p < 20; p++) {
            x.join(p < 12 ? p % 2 : 2 + p % 5, 0);
            x.setLevel(p, 24 + p);
        }
        x.tick(4);
        return x;
    }

    /**
     * At bridge 0 a speaker that falls, a louder one that comes, one near the threshold; at bridge 1 a
     * speaker that falls silent: every setting of the selection counts in what comes.
     */
    static ConferenceBridges talking() {
        ConferenceBridges x = phones(2, 24);
        x.addBridge(0, 1, false);
        x.join(1, 0);
        x.setLevel(2, 24);
        x.setSelection(2, 12, 6, 3);
        x.tick(9);
        x.setLevel(0, 5);
        x.setLevel(2, 0);
        for (int level : new int[] {26, 13, 11}) {
            x.setLevel(x.join(0, 0), level);
        }
        return x;
    }

    /** One silent holder, one loud one near the limit, two requests: every setting of the floor counts in what comes. */
    static ConferenceBridges holding() {
        ConferenceBridges x = phones(2, 30);
        x.join(0, 0);
        x.join(0, 0);
        x.setLevel(1, 0);
        x.setFloor(true, 2, 6, 9);
        for (int p = 0; p < 4; p++) {
            x.request(p, 9 - p);
        }
        x.tick(4);
        return x;
    }

    /** Bridge 0 and four bridges at it, with four of this level at each: if they speak, all streams meet at bridge 0. */
    static ConferenceBridges star(int level) {
        ConferenceBridges x = fresh();
        for (int bridge = 1; bridge < 5; bridge++) {
            x.addBridge(0, 4, false);
        }
        x.setSelection(4, 10, 6, 3);
        for (int p = 0; p < 20; p++) {
            x.join(p % 5, 0);
            x.setLevel(p, level);
        }
        return x;
    }

    static void write(ConferenceBridges x, String text) {
        x.clearText();
        for (int i = 0; i < text.length(); i++) {
            x.type(text.charAt(i));
        }
    }

    static int bits(float value) {
        return Float.floatToIntBits(value);
    }
}
