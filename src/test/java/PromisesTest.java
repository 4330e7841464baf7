/**
 * One part for each promise of the document: ordinary inputs, the edges, wrong inputs. The numbers
 * that are due have been worked out from the document by hand: POWER(30) is 1024, so that the
 * loudness of a participant with level 30 is 512, 768, 896, 960, .. after its first ticks.
 */
public final class PromisesTest {
    private static final int NONE = -1, BAD_INDEX = -2, BAD_VALUE = -3, BAD_STATE = -4, FULL = -5, WRONG_KIND = -6;
    private static final int[] FAR = {Integer.MIN_VALUE, -1, Integer.MAX_VALUE};

    private static int wrong = 0;
    private static int promise = 0;

    public static void main(String[] args) {
        constants();
        aNewObject();
        addBridge();
        join();
        leave();
        move();
        setLevel();
        setMuted();
        setSelection();
        setFloor();
        request();
        giveUp();
        tick();
        undo();
        type();
        clearText();
        textFault();
        run();
        count();
        property();
        loudnessBits();
        mixBits();
        mix();
        hears();
        stream();
        distance();
        waiting();
        foretell();
        event();
        digest();
        System.out.println(wrong == 0 ? "all answers are as due" : wrong + " answers are not as due");
        if (wrong != 0) {
            System.exit(1);
        }
    }

    // ---- helpers

    private static void due(String what, long got, long want) {
        if (got != want) {
            wrong++;
            System.out.println("promise " + promise + ": " + what + " answered " + got + ", due is " + want);
        }
    }

    private static int bits(float value) {
        return Float.floatToIntBits(value);
    }

    /** So many phones at bridge 0. */
    private static ConferenceBridges withPhones(int many) {
        ConferenceBridges x = new ConferenceBridges();
        for (int p = 0; p < many; p++) {
            x.join(0, 0);
        }
        return x;
    }

    private static void write(ConferenceBridges x, String text) {
        x.clearText();
        for (int i = 0; i < text.length(); i++) {
            x.type(text.charAt(i));
        }
    }

    private static void dueEvent(ConferenceBridges x, int event, int kind, int participant, int tick) {
        due("event(" + event + ", 0)", x.event(event, 0), kind);
        due("event(" + event + ", 1)", x.event(event, 1), participant);
        due("event(" + event + ", 2)", x.event(event, 2), tick);
    }

    /** That a call which returned an error changed nothing, the history neither. */
    private static void dueSame(String what, ConferenceBridges x, long digest) {
        due("digest() after " + what, x.digest(), digest);
    }

    // ---- the promises

    private static void constants() {
        due("NONE", ConferenceBridges.NONE, NONE);
        due("BAD_INDEX", ConferenceBridges.BAD_INDEX, BAD_INDEX);
        due("BAD_VALUE", ConferenceBridges.BAD_VALUE, BAD_VALUE);
        due("BAD_STATE", ConferenceBridges.BAD_STATE, BAD_STATE);
        due("FULL", ConferenceBridges.FULL, FULL);
        due("WRONG_KIND", ConferenceBridges.WRONG_KIND, WRONG_KIND);
    }

    private static void aNewObject() {
        promise = 1;
        ConferenceBridges x = new ConferenceBridges();
        due("count(0)", x.count(0), 1);
        for (int what = 1; what <= 6; what++) {
            due("count(" + what + ")", x.count(what), 0);
        }
        due("undo()", x.undo(), BAD_STATE);
        due("clearText()", x.clearText(), 0);
        due("textFault()", x.textFault(), 0);
        due("a room at bridge 0", x.join(0, 1), 0);
        due("speakers at first", x.setSelection(2, 10, 6, 3), 2);
        due("floor at first", x.setFloor(false, 1, 10, 0), 0);

        // The threshold level is 10: POWER(11) is 12.7, and half of the way to it is gone each tick.
        x = withPhones(1);
        x.setLevel(0, 11);
        due("threshold at first", x.foretell(0, 9), 3);

        // The hysteresis is 6: against 1024 more than 1536 is needed, which 2048 gives in its third tick.
        x = withPhones(3);
        x.setLevel(0, 30);
        x.setLevel(1, 30);
        x.tick(99);
        due("loudness of 0", x.loudnessBits(0), bits(1024.0f));
        x.setLevel(2, 33);
        due("hysteresis at first", x.foretell(2, 9), 3);

        // The hang is 3: from 12.0 down it is 10.5, and then less than the threshold.
        x = withPhones(1);
        x.setLevel(0, 12);
        due("tick(2)", x.tick(2), 1);
        x.setLevel(0, 0);
        due("within the hang", x.tick(4), 1);
        due("after the hang", x.tick(1), 0);

        // The floor is off: everybody may speak, and nobody gets it.
        x = withPhones(1);
        x.request(0, 5);
        x.setLevel(0, 30);
        due("may speak", x.tick(1), 1);
        due("requests", x.count(4), 1);
        due("holders", x.count(5), 0);
    }

    private static void addBridge() {
        promise = 2;
        ConferenceBridges x = new ConferenceBridges();
        for (int far : FAR) {
            due("parent " + far, x.addBridge(far, 1, false), BAD_INDEX);
            due("places " + far, x.addBridge(0, far, false), BAD_VALUE);
        }
        due("no such parent", x.addBridge(1, 1, false), BAD_INDEX);
        due("no such parent, bad places", x.addBridge(1, 0, false), BAD_INDEX);
        due("places 0", x.addBridge(0, 0, false), BAD_VALUE);
        due("places 5", x.addBridge(0, 5, false), BAD_VALUE);
        due("history", x.undo(), BAD_STATE);
        due("first", x.addBridge(0, 1, false), 1);
        due("second", x.addBridge(1, 4, true), 2);
        for (int bridge = 3; bridge < 8; bridge++) {
            due("bridge " + bridge, x.addBridge(bridge - 1, 2, false), bridge);
        }
        due("a ninth", x.addBridge(0, 1, false), FULL);
        due("a ninth, bad places", x.addBridge(7, 5, false), BAD_VALUE);
        due("a ninth, bad parent", x.addBridge(8, 5, false), BAD_INDEX);
        due("count(0)", x.count(0), 8);
        due("room at phones", x.join(2, 1), WRONG_KIND);
        due("room elsewhere", x.join(1, 1), 0);
        x.undo();
        due("undo()", x.undo(), 3);
        due("count(0)", x.count(0), 7);
        due("again", x.addBridge(0, 3, true), 7);
        due("room at the new one", x.join(7, 1), WRONG_KIND);

        // As many streams go over as there are places, in either direction.
        for (int places = 1; places <= 4; places++) {
            x = new ConferenceBridges();
            x.addBridge(0, places, false);
            x.setSelection(4, 10, 6, 3);
            for (int p = 0; p < 8; p++) {
                x.join(p % 2, 0);
                x.setLevel(p, 30);
            }
            due("speakers", x.tick(1), 8);
            due("last place down", x.stream(1, 0, places - 1, 0), 2 * places - 2);
            due("none more down", x.stream(1, 0, places, 0), NONE);
            due("last place up", x.stream(0, 1, places - 1, 0), 2 * places - 1);
            due("none more up", x.stream(0, 1, places, 0), NONE);
        }

        // A bridge that was undone leaves no streams to the next one of its number.
        x = withPhones(1);
        x.setLevel(0, 30);
        x.addBridge(0, 1, false);
        x.tick(2);
        due("stream", x.stream(1, 0, 0, 0), 0);
        x.undo();
        x.undo();
        x.addBridge(0, 1, false);
        due("no stream yet", x.stream(1, 0, 0, 0), NONE);

        // Nor does it if there was a tick without it in between, in either direction.
        x = withPhones(1);
        x.addBridge(0, 4, false);
        x.join(1, 0);
        x.setLevel(1, 30);
        x.setLevel(0, 30);
        x.tick(1);
        due("stream down", x.stream(1, 0, 0, 0), 0);
        due("stream up", x.stream(0, 1, 0, 0), 1);
        for (int left = 4; left >= 0; left--) {
            due("undo()", x.undo(), left);
        }
        x.setLevel(0, 30);
        due("a tick with bridge 0 alone", x.tick(1), 1);
        due("the next one of its number", x.addBridge(0, 4, false), 1);
        due("no stream down", x.stream(1, 0, 0, 0), NONE);
        due("no stream up", x.stream(0, 1, 0, 0), NONE);
        x.join(1, 0);
        x.tick(1);
        due("nothing is heard in the next tick", x.property(1, 8), 0);
        due("nor at bridge 0", x.property(0, 8), 0);
    }

    private static void join() {
        promise = 3;
        ConferenceBridges x = new ConferenceBridges();
        x.addBridge(0, 1, true);
        x.addBridge(0, 1, false);
        x.addBridge(0, 1, false);
        for (int far : FAR) {
            due("bridge " + far, x.join(far, 0), BAD_INDEX);
            due("kind " + far, x.join(0, far), BAD_VALUE);
        }
        due("bridge 4", x.join(4, 2), BAD_INDEX);
        due("kind 2", x.join(1, 2), BAD_VALUE);
        due("room at phones", x.join(1, 1), WRONG_KIND);
        due("history", x.undo(), 2);
        due("again", x.addBridge(0, 1, false), 3);
        for (int p = 0; p < 6; p++) {
            due("phone " + p, x.join(1, 0), p);
        }
        due("a seventh phone", x.join(1, 0), FULL);
        due("a seventh, a room", x.join(1, 1), FULL);
        due("bad kind at a full bridge", x.join(1, 2), BAD_VALUE);
        due("leave(3)", x.leave(3), 5);
        due("its place is free", x.join(1, 0), 6);
        due("and taken", x.join(1, 0), FULL);
        for (int p = 7; p < 20; p++) {
            due("participant " + p, x.join(p < 13 ? 0 : p < 19 ? 2 : 3, p % 2), p);
        }
        due("a twenty-first", x.join(3, 0), FULL);
        due("leave(19)", x.leave(19), 18);
        due("numbers are not used again", x.join(3, 0), FULL);
        due("count(1)", x.count(1), 20);
        due("count(2)", x.count(2), 18);

        // What a participant is at first, also where another one was undone.
        x = withPhones(1);
        x.setLevel(0, 40);
        x.join(0, 0);
        x.setLevel(1, 40);
        x.setMuted(1, true);
        x.request(1, 3);
        x.tick(1);
        for (int i = 0; i < 5; i++) {
            x.undo();
        }
        due("count(1)", x.count(1), 1);
        due("a room", x.join(0, 1), 1);
        int[] first = {0, 1, 0, 0, 0, 0, 0, 0, 0};
        for (int what = 0; what <= 8; what++) {
            due("property(1, " + what + ")", x.property(1, what), first[what]);
        }
        due("loudnessBits(1)", x.loudnessBits(1), 0);
        due("mixBits(1)", x.mixBits(1), 0);
        due("hears(1, 0)", x.hears(1, 0), 0);
    }

    private static void leave() {
        promise = 4;
        ConferenceBridges x = withPhones(3);
        for (int far : FAR) {
            due("leave(" + far + ")", x.leave(far), BAD_INDEX);
        }
        due("leave(3)", x.leave(3), BAD_INDEX);
        x.setFloor(true, 1, 10, 0);
        x.setLevel(0, 30);
        x.setLevel(1, 30);
        x.request(0, 1);
        x.request(1, 1);
        due("tick(1)", x.tick(1), 1);
        due("holder leaves", x.leave(0), 2);
        due("holders", x.count(5), 0);
        due("one with a request leaves", x.leave(1), 1);
        due("requests", x.count(4), 0);
        due("twice", x.leave(1), BAD_INDEX);
        due("property of it", x.property(1, 0), BAD_INDEX);
        due("it is heard until the next tick", x.hears(2, 0), 1);
        due("tick(1)", x.tick(1), 0);
        due("and not any more", x.hears(2, 0), 0);
        dueEvent(x, 0, 5, 0, 2);
        due("last one", x.leave(2), 0);
        due("undo()", x.undo(), 4);
        due("it is back", x.property(2, 0), 0);
        due("history before", x.undo(), 3);
        due("one has left", x.leave(1), BAD_INDEX);
        due("undo()", x.undo(), 2);
        due("its request is back", x.property(1, 7), 1);
        due("undo()", x.undo(), 1);
        due("its floor is back", x.property(0, 7), 2);
    }

    private static void move() {
        promise = 5;
        ConferenceBridges x = withPhones(6);
        x.addBridge(0, 1, true);
        x.join(1, 0);
        for (int far : FAR) {
            due("participant " + far, x.move(far, 0), BAD_INDEX);
            due("bridge " + far, x.move(0, far), BAD_INDEX);
        }
        due("participant 7", x.move(7, 0), BAD_INDEX);
        due("bridge 2", x.move(0, 2), BAD_INDEX);
        due("full", x.move(6, 0), FULL);
        due("the same one, though full", x.move(5, 0), 0);
        due("away", x.move(5, 1), 0);
        due("now there is room", x.move(6, 0), 1);
        due("leave(0)", x.leave(0), 6);
        due("it has left", x.move(0, 1), BAD_INDEX);
        due("a room", x.join(0, 1), 7);
        due("a room to phones", x.move(7, 1), WRONG_KIND);
        due("undo() of join", x.undo(), 4);

        x = withPhones(5);
        x.addBridge(0, 1, true);
        x.join(0, 1);
        for (int p = 0; p < 5; p++) {
            x.move(p, 1);
        }
        x.join(1, 0);
        due("full before wrong kind", x.move(5, 1), FULL);
        due("a room to where it is", x.move(5, 0), 0);

        // Loudness and times stay; to a later bridge a speaker goes at once, to an earlier one a tick later.
        x = withPhones(1);
        x.addBridge(0, 1, false);
        x.setLevel(0, 30);
        x.tick(3);
        due("move(0, 1)", x.move(0, 1), 0);
        due("loudness", x.loudnessBits(0), bits(896.0f));
        due("talk time", x.property(0, 5), 3);
        due("still a speaker", x.property(0, 4), 1);
        due("tick(1)", x.tick(1), 1);
        dueEvent(x, 1, 5, 0, 4);
        dueEvent(x, 0, 1, 0, 4);
        due("talk time", x.property(0, 5), 4);
        due("move(0, 0)", x.move(0, 0), 1);
        due("none this time", x.tick(1), 0);
        dueEvent(x, 0, 5, 0, 5);
        due("talk time", x.property(0, 5), 4);
        due("and one again", x.tick(1), 1);
        due("back before a tick", x.move(0, 1) + x.move(0, 0), 1);
        x.tick(1);
        dueEvent(x, 0, 1, 0, 6);
        x.setLevel(0, 0);
        x.tick(99);
        int quiet = x.property(0, 6);
        due("quiet", quiet > 0 ? 1 : 0, 1);
        x.move(0, 1);
        due("quiet time stays", x.property(0, 6), quiet);
    }

    private static void setLevel() {
        promise = 6;
        ConferenceBridges x = withPhones(2);
        for (int far : FAR) {
            due("participant " + far, x.setLevel(far, 0), BAD_INDEX);
            due("level " + far, x.setLevel(0, far), BAD_VALUE);
        }
        due("participant 2, bad level", x.setLevel(2, 61), BAD_INDEX);
        due("level 61", x.setLevel(0, 61), BAD_VALUE);
        due("history", x.undo(), 1);
        x = withPhones(2);
        due("level 60", x.setLevel(0, 60), 0);
        due("level 7", x.setLevel(0, 7), 60);
        due("the same", x.setLevel(0, 7), 7);
        due("the other", x.setLevel(1, 0), 0);
        due("property", x.property(0, 2), 7);
        due("undo() of a call that changed nothing", x.undo(), 4);
        due("property", x.property(0, 2), 7);
        x.undo();
        x.undo();
        due("property", x.property(0, 2), 60);
        x.leave(0);
        due("it has left", x.setLevel(0, 1), BAD_INDEX);
    }

    private static void setMuted() {
        promise = 7;
        ConferenceBridges x = withPhones(2);
        for (int far : FAR) {
            due("participant " + far, x.setMuted(far, true), BAD_INDEX);
        }
        due("participant 2", x.setMuted(2, false), BAD_INDEX);
        due("mute", x.setMuted(0, true), 0);
        due("property", x.property(0, 3), 1);
        due("mute", x.setMuted(0, true), 1);
        due("unmute", x.setMuted(0, false), 1);
        due("property", x.property(0, 3), 0);
        due("unmute", x.setMuted(0, false), 0);
        due("undo()", x.undo(), 4);
        due("undo()", x.undo(), 3);
        due("property", x.property(0, 3), 1);
        x.leave(0);
        due("it has left", x.setMuted(0, true), BAD_INDEX);

        // Muted it is a speaker no more, at once, and its power is 0.
        x = withPhones(1);
        x.setLevel(0, 30);
        due("tick(1)", x.tick(1), 1);
        x.setMuted(0, true);
        due("speaker until the tick", x.property(0, 4), 1);
        due("tick(1)", x.tick(1), 0);
        due("loudness", x.loudnessBits(0), bits(448.0f));
        due("level stays", x.property(0, 2), 30);
    }

    private static void setSelection() {
        promise = 8;
        ConferenceBridges x = new ConferenceBridges();
        int[][] bad = {{0, 1, 4, 0}, {5, 1, 4, 0}, {1, 0, 4, 0}, {1, 61, 4, 0}, {1, 1, 3, 0}, {1, 1, 17, 0},
            {1, 1, 4, -1}, {1, 1, 4, 21}};
        for (int[] b : bad) {
            due("bad arguments", x.setSelection(b[0], b[1], b[2], b[3]), BAD_VALUE);
        }
        for (int far : FAR) {
            due("speakers " + far, x.setSelection(far, 1, 4, 0), BAD_VALUE);
            due("threshold " + far, x.setSelection(1, far, 4, 0), BAD_VALUE);
            due("hysteresis " + far, x.setSelection(1, 1, far, 0), BAD_VALUE);
            due("hang " + far, x.setSelection(1, 1, 4, far), BAD_VALUE);
        }
        due("history", x.undo(), BAD_STATE);
        due("least", x.setSelection(1, 1, 4, 0), 2);
        due("most", x.setSelection(4, 60, 16, 20), 1);
        due("undo()", x.undo(), 1);
        due("after undo", x.setSelection(3, 10, 6, 3), 1);

        // The number of speakers; fewer of them: the least loud ones go, of several the greatest number.
        x = withPhones(5);
        for (int p = 0; p < 5; p++) {
            x.setLevel(p, p == 1 ? 33 : 30);
        }
        x.setSelection(4, 10, 16, 3);
        due("four speakers", x.tick(1), 4);
        due("not the last one", x.property(4, 4), 0);
        x.setSelection(2, 10, 16, 3);
        due("two speakers", x.tick(1), 2);
        dueEvent(x, 1, 5, 3, 2);
        dueEvent(x, 0, 5, 2, 2);
        due("0", x.property(0, 4), 1);
        due("1", x.property(1, 4), 1);

        // The threshold: a loudness that is equal to it is enough.
        x = withPhones(1);
        x.setLevel(0, 30);
        x.setSelection(1, 27, 6, 3);
        due("512 at the threshold of 512", x.tick(1), 1);
        due("quiet time", x.property(0, 6), 0);
        x = withPhones(1);
        x.setLevel(0, 30);
        x.setSelection(1, 28, 6, 3);
        due("512 below 645", x.tick(1), 0);
        due("quiet time", x.property(0, 6), 1);

        // The hysteresis is in quarters: with 4 more than 512 is enough, and equal is not.
        x = withPhones(2);
        x.setSelection(1, 10, 4, 3);
        x.setLevel(0, 30);
        x.setLevel(1, 30);
        x.tick(1);
        due("equal does not replace", x.foretell(1, 99), NONE);
        x.setLevel(1, 31);
        due("louder replaces", x.foretell(1, 1), 1);
        x.setSelection(1, 10, 8, 3);
        due("less than twice as loud", x.foretell(1, 99), NONE);

        // The hang 0: the first quiet tick ends it.
        x = withPhones(1);
        x.setSelection(1, 30, 6, 0);
        x.setLevel(0, 33);
        due("speaker", x.tick(1), 1);
        x.setLevel(0, 0);
        due("quiet at once", x.tick(1), 0);
        x = withPhones(1);
        x.setSelection(1, 30, 6, 20);
        x.setLevel(0, 33);
        x.tick(1);
        x.setLevel(0, 0);
        due("hang of 20", x.tick(20), 1);
        due("hang is over", x.tick(1), 0);
    }

    private static void setFloor() {
        promise = 9;
        ConferenceBridges x = new ConferenceBridges();
        int[][] bad = {{0, 1, 0}, {5, 1, 0}, {1, 0, 0}, {1, 51, 0}, {1, 1, -1}, {1, 1, 101}};
        for (int[] b : bad) {
            due("bad arguments", x.setFloor(true, b[0], b[1], b[2]), BAD_VALUE);
        }
        for (int far : FAR) {
            due("tokens " + far, x.setFloor(true, far, 1, 0), BAD_VALUE);
            due("patience " + far, x.setFloor(true, 1, far, 0), BAD_VALUE);
            due("limit " + far, x.setFloor(true, 1, 1, far), BAD_VALUE);
        }
        due("history", x.undo(), BAD_STATE);
        due("on", x.setFloor(true, 1, 1, 0), 0);
        due("on", x.setFloor(true, 4, 50, 100), 1);
        due("off", x.setFloor(false, 4, 50, 100), 1);
        due("off", x.setFloor(false, 4, 50, 100), 0);
        due("undo()", x.undo(), 3);
        due("undo()", x.undo(), 2);
        due("it was on", x.setFloor(true, 1, 1, 0), 1);

        // Tokens: as many holders; only holders speak.
        for (int tokens = 1; tokens <= 4; tokens++) {
            x = withPhones(5);
            x.setFloor(true, tokens, 10, 0);
            x.setSelection(4, 10, 6, 3);
            for (int p = 0; p < 5; p++) {
                x.setLevel(p, 30);
                x.request(p, 4);
            }
            due("speakers with " + tokens + " tokens", x.tick(1), tokens);
            due("holders", x.count(5), tokens);
            due("requests", x.count(4), 5 - tokens);
            dueEvent(x, 2 * tokens - 1, 2, 0, 1);
            dueEvent(x, tokens, 2, tokens - 1, 1);
            dueEvent(x, tokens - 1, 1, 0, 1);
        }

        // Fewer tokens take the floor from nobody.
        x.setFloor(true, 1, 10, 0);
        x.tick(1);
        due("holders stay", x.count(5), 4);

        // Patience: the floor is lost when the silent time is greater than it.
        x = withPhones(1);
        x.setFloor(true, 1, 2, 0);
        x.request(0, 0);
        x.tick(1);
        due("holds", x.property(0, 7), 2);
        x.tick(2);
        due("silent for 2", x.property(0, 7), 2);
        x.tick(1);
        due("silent for 3", x.property(0, 7), 0);
        dueEvent(x, 0, 3, 0, 4);
        due("events", x.count(6), 2);

        // A tick that is not silent begins the silent time anew.
        x = withPhones(1);
        x.setFloor(true, 1, 2, 0);
        x.setSelection(1, 30, 6, 0);
        x.request(0, 0);
        x.tick(3);
        x.setLevel(0, 33);
        x.tick(1);
        x.setLevel(0, 0);
        x.tick(2);
        due("silent for 2 again", x.property(0, 7), 2);
        x.tick(1);
        due("silent for 3", x.property(0, 7), 0);

        // The limit works only while there are requests, and silence comes first.
        x = withPhones(2);
        x.setFloor(true, 1, 50, 3);
        x.setLevel(0, 30);
        x.request(0, 0);
        x.tick(9);
        due("nobody else wants it", x.property(0, 7), 2);
        x.request(1, 0);
        x.tick(1);
        dueEvent(x, 2, 4, 0, 10);
        dueEvent(x, 1, 2, 1, 10);
        dueEvent(x, 0, 5, 0, 10);
        x = withPhones(2);
        x.setFloor(true, 1, 50, 3);
        x.request(0, 0);
        x.tick(1);
        x.request(1, 9);
        x.tick(2);
        due("holding for 2", x.property(0, 7), 2);
        x.tick(1);
        due("holding for 3", x.property(0, 7), 0);
        due("the next one", x.property(1, 7), 2);
        x = withPhones(2);
        x.setFloor(true, 1, 2, 3);
        x.request(0, 0);
        x.tick(1);
        x.request(1, 9);
        x.tick(3);
        dueEvent(x, 1, 3, 0, 4);
        dueEvent(x, 0, 2, 1, 4);
        x = withPhones(2);
        x.setFloor(true, 1, 50, 0);
        x.request(0, 0);
        x.tick(1);
        x.request(1, 9);
        x.tick(40);
        due("no limit", x.property(0, 7), 2);

        // The limit 1: each tick the floor goes on, and its times begin at 0 for the one that gets it again.
        ConferenceBridges y = withPhones(3);
        y.setFloor(true, 1, 50, 1);
        for (int tick = 1; tick <= 12; tick++) {
            for (int p = 0; p < 3; p++) {
                y.request(p, 5);
            }
            y.tick(1);
            due("the floor in tick " + tick, y.property((tick - 1) % 3, 7), 2);
        }
        y = withPhones(2);
        y.setFloor(true, 1, 50, 3);
        y.request(0, 5);
        y.tick(9);
        y.giveUp(0);
        y.request(0, 5);
        y.tick(1);
        y.request(1, 5);
        y.tick(2);
        due("holding for 2, the second time", y.property(0, 7), 2);
        y.tick(1);
        due("holding for 3, the second time", y.property(0, 7), 0);

        // While it is off, times stand still, holders stay, and everybody may speak.
        x.setFloor(false, 1, 1, 1);
        x.setLevel(1, 30);
        due("all may speak", x.tick(99), 1);
        due("holder", x.property(0, 7), 2);
        due("request", x.property(1, 7), 1);
        x.setFloor(true, 1, 50, 42);
        due("only holders", x.tick(1), 0);
        due("holding for 41", x.property(0, 7), 2);
        x.tick(1);
        due("holding for 42", x.property(0, 7), 0);
    }

    private static void request() {
        promise = 10;
        ConferenceBridges x = withPhones(4);
        for (int far : FAR) {
            due("participant " + far, x.request(far, 0), BAD_INDEX);
            due("priority " + far, x.request(0, far), BAD_VALUE);
        }
        due("participant 4, bad priority", x.request(4, 10), BAD_INDEX);
        due("priority 10", x.request(0, 10), BAD_VALUE);
        due("first", x.request(0, 0), 1);
        due("second", x.request(1, 9), 2);
        due("third", x.request(2, 9), 3);
        due("again", x.request(0, 5), BAD_STATE);
        due("again, bad priority", x.request(0, 10), BAD_VALUE);
        due("property", x.property(0, 7), 1);
        x.leave(3);
        due("it has left", x.request(3, 0), BAD_INDEX);
        due("not given while off", x.tick(1) + x.count(5), 0);
        x.setFloor(true, 2, 10, 0);
        due("not given before a tick", x.count(5), 0);
        x.tick(1);
        due("highest priority, earliest", x.property(1, 7), 2);
        due("then the second", x.property(2, 7), 2);
        due("not the lowest", x.property(0, 7), 1);
        due("holder requests", x.request(1, 1), BAD_STATE);
        due("holder requests, bad priority", x.request(1, -1), BAD_VALUE);
        x.giveUp(0);
        due("after giving up", x.request(0, 1), 1);
        due("undo()", x.undo(), 4);
        due("requests", x.count(4), 0);
    }

    private static void giveUp() {
        promise = 11;
        ConferenceBridges x = withPhones(3);
        for (int far : FAR) {
            due("participant " + far, x.giveUp(far), BAD_INDEX);
        }
        due("participant 3", x.giveUp(3), BAD_INDEX);
        due("neither", x.giveUp(0), BAD_STATE);
        x.request(0, 3);
        x.request(1, 3);
        x.setFloor(true, 1, 10, 0);
        x.setLevel(0, 30);
        due("tick(1)", x.tick(1), 1);
        due("request", x.giveUp(1), 0);
        due("requests", x.count(4), 0);
        due("floor", x.giveUp(0), 1);
        due("holders", x.count(5), 0);
        due("no event", x.count(6), 2);
        due("speaker until the tick", x.property(0, 4), 1);
        due("neither", x.giveUp(0), BAD_STATE);
        due("undo()", x.undo(), 4);
        due("holds again", x.property(0, 7), 2);
        x.giveUp(0);
        due("tick(1)", x.tick(1), 0);
        x.leave(0);
        due("it has left", x.giveUp(0), BAD_INDEX);

        // Also while the floor is off.
        x = withPhones(1);
        x.request(0, 3);
        due("while off", x.giveUp(0), 0);

        // The times begin anew when it gets the floor again.
        x = withPhones(2);
        x.setFloor(true, 1, 2, 0);
        x.request(0, 3);
        x.tick(3);
        x.giveUp(0);
        x.request(0, 3);
        x.tick(1);
        x.tick(2);
        due("silent for 2", x.property(0, 7), 2);
        x.tick(1);
        due("silent for 3", x.property(0, 7), 0);
    }

    private static void tick() {
        promise = 12;
        ConferenceBridges x = withPhones(2);
        for (int far : FAR) {
            due("tick(" + far + ")", x.tick(far), BAD_VALUE);
        }
        due("tick(0)", x.tick(0), BAD_VALUE);
        due("tick(100)", x.tick(100), BAD_VALUE);
        due("history", x.undo(), 1);
        due("tick(99)", x.tick(99), 0);
        due("ticks", x.count(3), 99);
        due("tick(1)", x.tick(1), 0);
        due("ticks", x.count(3), 100);
        due("undo()", x.undo(), 2);
        due("ticks", x.count(3), 99);

        // Speakers of all bridges; of equally loud ones the lowest numbers, the loudest first.
        x = withPhones(4);
        x.addBridge(0, 1, false);
        x.join(1, 1);
        for (int p = 0; p < 5; p++) {
            x.setLevel(p, 30);
        }
        x.setLevel(3, 33);
        due("tick(1)", x.tick(1), 3);
        dueEvent(x, 2, 1, 3, 1);
        dueEvent(x, 1, 1, 0, 1);
        dueEvent(x, 0, 1, 4, 1);
        due("events", x.count(6), 3);

        // One replacement in a tick: the least loud one goes first, of several the greatest number.
        x = withPhones(4);
        x.setLevel(0, 24);
        x.setLevel(1, 24);
        due("tick(1)", x.tick(1), 2);
        x.setLevel(2, 36);
        x.setLevel(3, 36);
        due("tick(1)", x.tick(1), 2);
        dueEvent(x, 1, 5, 1, 2);
        dueEvent(x, 0, 1, 2, 2);
        due("tick(1)", x.tick(1), 2);
        dueEvent(x, 1, 5, 0, 3);
        dueEvent(x, 0, 1, 3, 3);
        due("talk time of 0", x.property(0, 5), 2);
        due("talk time of 2", x.property(2, 5), 2);

        // A full house: 8 bridges, 20 participants, and everybody hears everybody else in the end.
        x = new ConferenceBridges();
        for (int b = 1; b < 8; b++) {
            x.addBridge(b - 1, 4, false);
        }
        x.setSelection(4, 10, 6, 3);
        for (int p = 0; p < 20; p++) {
            x.join(p % 8, 0);
            x.setLevel(p, p < 4 ? 30 + p : 0);
        }
        due("tick(20)", x.tick(20), 4);
        for (int p = 0; p < 20; p++) {
            due("how many " + p + " hears", x.property(p, 8), p < 4 ? 3 : 4);
        }
        due("digest()", x.digest(), digestOf(x));

        // Those that have left do not grow louder or quieter, and do not come back.
        x = withPhones(2);
        x.setLevel(0, 30);
        x.tick(1);
        x.leave(0);
        due("tick(5)", x.tick(5), 0);
        due("events", x.count(6), 2);
        dueEvent(x, 0, 5, 0, 2);
    }

    private static void undo() {
        promise = 13;
        ConferenceBridges x = new ConferenceBridges();
        due("empty", x.undo(), BAD_STATE);
        long[] before = new long[9];
        for (int step = 0; step < 9; step++) {
            before[step] = x.digest();
            due("step", undoable(x, step) >= 0 ? 1 : 0, 1);
        }
        x.join(9, 9);
        x.setLevel(0, 99);
        x.tick(0);
        for (int left = 4; left >= 0; left--) {
            due("undo()", x.undo(), left);
            due("digest()", x.digest(), before[left + 4]);
        }
        due("oldest ones are dropped", x.undo(), BAD_STATE);
        dueSame("a refused undo", x, before[4]);
        due("goes on", x.tick(1), 1);
        due("undo()", x.undo(), 0);

        // The text is not a part of the state, and settings are.
        x = withPhones(1);
        x.setLevel(0, 30);
        x.type('T');
        due("undo()", x.undo(), 1);
        due("text stays", x.clearText(), 1);
        x.setSelection(1, 60, 16, 20);
        x.setFloor(true, 4, 50, 100);
        x.undo();
        x.undo();
        x.setLevel(0, 11);
        due("threshold is back, floor is off", x.foretell(0, 9), 3);

        undoBringsSettingsBack();

        // A priority comes back: 1 is behind 0 again, and 2 between them.
        x = withPhones(3);
        x.request(0, 6);
        x.request(1, 3);
        x.giveUp(1);
        x.request(1, 5);
        x.undo();
        x.undo();
        x.request(2, 4);
        due("waiting(1)", x.waiting(1), 2);
        due("waiting(2)", x.waiting(2), 1);

        // Who hears whom, mixes, streams and requests come back too.
        x = withPhones(2);
        x.addBridge(0, 2, false);
        x.setLevel(0, 30);
        x.request(1, 4);
        x.tick(2);
        long digest = x.digest();
        x.leave(0);
        x.giveUp(1);
        x.tick(3);
        x.undo();
        x.undo();
        x.undo();
        dueSame("three undos", x, digest);
        due("hears", x.hears(1, 0), 1);
        due("mix", x.mixBits(1), bits(768.0f));
        due("stream", x.stream(1, 0, 0, 2), bits(768.0f));
        due("waiting", x.waiting(0), 1);
    }

    private static void undoBringsSettingsBack() {
        // The hang of 3, after one of 20.
        ConferenceBridges x = withPhones(1);
        x.setSelection(1, 30, 6, 3);
        x.setLevel(0, 33);
        x.tick(1);
        x.setSelection(1, 30, 6, 20);
        x.undo();
        x.setLevel(0, 0);
        due("within the hang", x.tick(3), 1);
        due("after the hang", x.tick(1), 0);

        // The threshold of 512, after one of 1024.
        x = withPhones(1);
        x.setSelection(1, 27, 6, 3);
        x.setLevel(0, 30);
        x.setSelection(1, 30, 6, 3);
        x.undo();
        due("at the threshold", x.tick(1), 1);

        // Against 512 half as much again is needed, not four times as much.
        x = withPhones(2);
        x.setSelection(1, 10, 6, 3);
        x.setLevel(0, 30);
        x.tick(1);
        x.setLevel(1, 36);
        x.setSelection(1, 10, 16, 3);
        x.undo();
        due("hysteresis", x.foretell(1, 9), 1);

        // Two tokens, patience 2 and limit 3, after others.
        x = withPhones(4);
        x.setFloor(true, 2, 2, 3);
        x.request(0, 5);
        x.request(1, 5);
        x.request(2, 5);
        x.setLevel(0, 30);
        x.setFloor(false, 4, 50, 100);
        x.undo();
        x.tick(1);
        due("tokens", x.count(5), 2);
        x.tick(2);
        due("holders", x.property(0, 7) + x.property(1, 7), 4);
        x.tick(1);
        dueEvent(x, 3, 4, 0, 4);
        dueEvent(x, 2, 3, 1, 4);
        dueEvent(x, 1, 2, 2, 4);
        dueEvent(x, 0, 5, 0, 4);

        // The times of a holder: 2 of 3 ticks and silent in 2 before, and again after undo.
        x = withPhones(2);
        x.setFloor(true, 1, 50, 4);
        x.request(0, 5);
        x.tick(3);
        x.request(1, 5);
        x.tick(1);
        x.undo();
        x.tick(1);
        due("holding for 3", x.property(0, 7), 2);
        x.tick(1);
        due("holding for 4", x.property(0, 7), 0);
        x = withPhones(1);
        x.setFloor(true, 1, 3, 0);
        x.request(0, 5);
        x.tick(3);
        x.tick(1);
        x.undo();
        x.tick(1);
        due("silent for 3", x.property(0, 7), 2);
        x.tick(1);
        due("silent for 4", x.property(0, 7), 0);
    }

    private static int undoable(ConferenceBridges x, int step) {
        switch (step) {
            case 0: return x.join(0, 0);
            case 1: return x.addBridge(0, 2, false);
            case 2: return x.join(1, 1);
            case 3: return x.setLevel(0, 40);
            case 4: return x.tick(3);
            case 5: return x.request(0, 3);
            case 6: return x.move(1, 0);
            case 7: return x.tick(2);
            default: return x.leave(1);
        }
    }

    private static void type() {
        promise = 14;
        ConferenceBridges x = new ConferenceBridges();
        for (int far : FAR) {
            due("type(" + far + ")", x.type(far), BAD_VALUE);
        }
        due("type(256)", x.type(256), BAD_VALUE);
        due("type(0)", x.type(0), 1);
        due("type(255)", x.type(255), 2);
        for (int length = 3; length <= 100; length++) {
            due("type(32)", x.type(32), length);
        }
        due("one more", x.type(32), FULL);
        due("one more, bad", x.type(256), BAD_VALUE);
        due("one more, bad", x.type(-1), BAD_VALUE);
        due("not undoable", x.undo(), BAD_STATE);
        due("clearText()", x.clearText(), 100);
        due("room again", x.type(65), 1);
    }

    private static void clearText() {
        promise = 15;
        ConferenceBridges x = new ConferenceBridges();
        due("empty", x.clearText(), 0);
        write(x, "T1x");
        due("three", x.clearText(), 3);
        due("empty again", x.clearText(), 0);
        due("fault of the empty text", x.textFault(), 0);
        write(x, "T1");
        due("what was before is gone", x.textFault(), NONE);
        due("not undoable", x.undo(), BAD_STATE);
    }

    private static void dueFault(String text, int want) {
        ConferenceBridges x = new ConferenceBridges();
        write(x, text);
        due("textFault() of '" + text + "'", x.textFault(), want);
        due("run() of '" + text + "'", x.run() == BAD_STATE ? 1 : 0, want == NONE ? 0 : 1);
    }

    private static void textFault() {
        promise = 16;
        String[] good = {"T1", "L1 2", "M 10 2", "R1 2", "F01", "U00", "T1;T2", " T 1 ; L 1  2 ; U 3 ", "T99;T99",
            "L01 60;M2 7;R3 9;T1;F4;U5"};
        for (String text : good) {
            dueFault(text, NONE);
        }
        String[] early = {"", " ", "   ", "T", "T ", "L", "L1", "L1 ", "L12", "R 1  ", "M1", "T1;", "T1 ; ", "T1;L2"};
        for (String text : early) {
            dueFault(text, text.length());
        }
        dueFault("x", 0);
        dueFault("t1", 0);
        dueFault("1", 0);
        dueFault(";", 0);
        dueFault("  ;T1", 2);
        dueFault("T;", 1);
        dueFault("TT1", 1);
        dueFault("Tx", 1);
        dueFault("T123", 1);
        dueFault("T 000", 2);
        dueFault("T 1234567890123456789", 2);
        dueFault("L 1 100", 4);
        dueFault("L 100 x", 2);
        dueFault("L100", 1);
        dueFault("L1;", 2);
        dueFault("L1,2", 2);
        dueFault("T1 2", 3);
        dueFault("T1 200", 3);
        dueFault("L1 2 3", 5);
        dueFault("T1T2", 2);
        dueFault("T1;;T2", 3);
        dueFault("T1; x", 4);
        dueFault("T1;T1:", 5);
        dueFault("T/", 1);
        dueFault("T:", 1);
        dueFault("T1" + (char) 0, 2);
        dueFault("T" + (char) 9 + "1", 1);
        dueFault("T" + (char) 178, 1);
        dueFault("T" + (char) 160 + "1", 1);
        dueFault((char) 255 + "T1", 0);

        // A text of 100 bytes.
        StringBuilder full = new StringBuilder("T1");
        while (full.length() < 98) {
            full.append(";T1");
        }
        dueFault(full.toString(), NONE);
        dueFault(full + "  ", NONE);
        dueFault(full + ";T", 100);
        dueFault(full + "00", 97);
    }

    private static void run() {
        promise = 17;
        ConferenceBridges x = withPhones(3);
        due("empty", x.run(), BAD_STATE);
        write(x, "T1;");
        due("fault", x.run(), BAD_STATE);
        due("nothing was done", x.count(3), 0);
        due("nothing was recorded", x.undo(), 2);

        x = withPhones(3);
        x.addBridge(0, 1, false);
        write(x, "L0 30;M 1 1;R2 7;U 2;T 2;T02");
        due("six orders", x.run(), 6);
        due("level", x.property(0, 2), 30);
        due("bridge", x.property(1, 0), 1);
        due("waiting", x.waiting(0), 2);
        due("muted", x.property(2, 3), 1);
        due("ticks", x.count(3), 4);
        due("hears", x.hears(1, 0), 1);
        due("the text stays", x.run(), 2);
        due("muted stays, for the third order failed", x.property(2, 3), 1);
        due("undo() of the second run", x.undo(), 4);
        due("undo() of the first run", x.undo(), 3);
        due("ticks", x.count(3), 0);
        due("level", x.property(0, 2), 0);
        due("bridge", x.property(1, 0), 0);

        // U turns muted into not muted, F gives up.
        x = withPhones(2);
        write(x, "U1;R0 5;F0;U1;F0;T9");
        due("four orders", x.run(), 4);
        due("not muted", x.property(1, 3), 0);
        due("no request", x.count(4), 0);
        due("no ticks", x.count(3), 0);
        write(x, "U1;U0;U1;U1");
        due("four orders", x.run(), 4);
        due("muted", x.property(1, 3), 1);
        due("muted", x.property(0, 3), 1);

        // Errors of each order end the run; that there are no orders done is recorded, too.
        String[] refused = {"L2 1", "L0 61", "M2 0", "M0 8", "R2 0", "R0 10", "T0", "T00", "F0", "F2", "U2", "U99"};
        for (String order : refused) {
            x = withPhones(2);
            long digest = x.digest();
            write(x, order + ";T1");
            due("run() of " + order, x.run(), 0);
            dueSame(order, x, digest);
            due("recorded", x.undo(), 2);
            dueSame("undo of " + order, x, digest);
            write(x, "T1;" + order + ";T1");
            due("run() of T1 and " + order, x.run(), 1);
            due("ticks", x.count(3), 1);
        }
        x = withPhones(2);
        x.leave(1);
        write(x, "U1");
        due("one that has left", x.run(), 0);

        // The most orders that a text can have.
        StringBuilder full = new StringBuilder("T9");
        while (full.length() < 98) {
            full.append(";T9");
        }
        x = new ConferenceBridges();
        write(x, full.toString());
        due("thirty-three orders", x.run(), 33);
        due("ticks", x.count(3), 297);
        due("undo()", x.undo(), 0);
    }

    private static void count() {
        promise = 18;
        ConferenceBridges x = withPhones(4);
        x.addBridge(0, 1, false);
        x.addBridge(1, 1, false);
        x.leave(3);
        x.setFloor(true, 1, 10, 0);
        x.request(0, 1);
        x.request(1, 1);
        x.request(2, 1);
        x.setLevel(0, 30);
        x.tick(7);
        int[] want = {3, 4, 3, 7, 2, 1, 2};
        for (int what = 0; what <= 6; what++) {
            due("count(" + what + ")", x.count(what), want[what]);
        }
        for (int far : FAR) {
            due("count(" + far + ")", x.count(far), BAD_VALUE);
        }
        due("count(7)", x.count(7), BAD_VALUE);
    }

    private static void property() {
        promise = 19;
        ConferenceBridges x = new ConferenceBridges();
        x.addBridge(0, 2, false);
        x.join(1, 1);
        x.join(1, 0);
        x.join(0, 0);
        x.setLevel(0, 40);
        x.setLevel(1, 38);
        x.request(1, 2);
        x.tick(5);
        x.setMuted(1, true);
        x.tick(1);
        int[] ofZero = {1, 1, 40, 0, 1, 6, 0, 0, 0};
        int[] ofOne = {1, 0, 38, 1, 0, 5, 0, 1, 1};
        int[] ofTwo = {0, 0, 0, 0, 0, 0, 6, 0, 2};
        for (int what = 0; what <= 8; what++) {
            due("property(0, " + what + ")", x.property(0, what), ofZero[what]);
            due("property(1, " + what + ")", x.property(1, what), ofOne[what]);
            due("property(2, " + what + ")", x.property(2, what), ofTwo[what]);
        }
        x.setFloor(true, 1, 10, 0);
        x.tick(1);
        due("holds", x.property(1, 7), 2);
        due("speaks no more", x.property(0, 4), 0);
        for (int far : FAR) {
            due("participant " + far, x.property(far, 0), BAD_INDEX);
            due("what " + far, x.property(0, far), BAD_VALUE);
        }
        due("participant 3", x.property(3, 9), BAD_INDEX);
        due("what 9", x.property(0, 9), BAD_VALUE);
        x.leave(0);
        due("it has left", x.property(0, 9), BAD_INDEX);
    }

    private static void loudnessBits() {
        promise = 20;
        ConferenceBridges x = withPhones(6);
        for (int far : FAR) {
            due("participant " + far, x.loudnessBits(far), BAD_INDEX);
        }
        due("participant 6", x.loudnessBits(6), BAD_INDEX);

        // Every level rises by halves and falls by eighths, as floats, down to the smallest ones.
        float[] third = {1.0f, 1.2599211f, 1.587401f};
        for (int level = 0; level <= 60; level++) {
            x = withPhones(1);
            x.setLevel(0, level);
            float power = level == 0 ? 0.0f : third[level % 3] * (float) (1 << level / 3);
            float loud = 0.0f;
            for (int i = 0; i < 40; i++) {
                x.tick(1);
                loud = power > loud ? loud + (power - loud) * 0.5f : loud + (power - loud) * 0.125f;
                due("level " + level + " rising", x.loudnessBits(0), bits(loud));
            }
            x.setLevel(0, 0);
            for (int i = 0; i < 200; i++) {
                int many = i < 20 ? 1 : 7;
                x.tick(many);
                for (int k = 0; k < many; k++) {
                    loud = loud + (0.0f - loud) * 0.125f;
                }
                due("level " + level + " falling", x.loudnessBits(0), bits(loud));
            }
        }
        x = withPhones(2);
        x.setLevel(0, 30);
        x.tick(2);
        due("loudness", x.loudnessBits(0), bits(768.0f));
        due("loudness of the other", x.loudnessBits(1), 0);
        x.setLevel(0, 27);
        x.tick(1);
        due("down by an eighth", x.loudnessBits(0), bits(736.0f));
        x.leave(0);
        due("it has left", x.loudnessBits(0), BAD_INDEX);
    }

    private static void mixBits() {
        promise = 21;
        ConferenceBridges x = withPhones(4);
        for (int far : FAR) {
            due("participant " + far, x.mixBits(far), BAD_INDEX);
        }
        due("participant 4", x.mixBits(4), BAD_INDEX);
        x.setSelection(3, 1, 6, 3);
        x.setLevel(0, 60);
        x.setLevel(1, 4);
        x.setLevel(2, 5);
        due("three speakers", x.tick(3), 3);
        float a = Float.intBitsToFloat(x.loudnessBits(0));
        float b = Float.intBitsToFloat(x.loudnessBits(1));
        float c = Float.intBitsToFloat(x.loudnessBits(2));
        due("the sum in the order of the speakers", x.mixBits(3), bits(0.0f + a + b + c));
        due("without itself", x.mixBits(0), bits(0.0f + b + c));
        x.setLevel(2, 0);
        due("it stays until the next tick", x.mixBits(3), bits(0.0f + a + b + c));
        x.leave(3);
        due("it has left", x.mixBits(3), BAD_INDEX);

        // The order matters: a small one between two great ones is lost in part.
        x = withPhones(5);
        x.setSelection(4, 4, 6, 20);
        int[] levels = {59, 5, 58, 7, 0};
        for (int p = 0; p < 5; p++) {
            x.setLevel(p, levels[p]);
        }
        for (int i = 0; i < 30; i++) {
            x.tick(1);
            float sum = 0.0f;
            for (int p = 0; p < 4; p++) {
                if (x.property(p, 4) == 1) {
                    sum = sum + Float.intBitsToFloat(x.loudnessBits(p));
                }
            }
            due("sum in tick " + i, x.mixBits(4), bits(sum));
        }
    }

    private static void mix() {
        promise = 22;
        ConferenceBridges x = withPhones(3);
        for (int far : FAR) {
            due("participant " + far, x.mix(far), BAD_INDEX);
        }
        due("participant 3", x.mix(3), BAD_INDEX);
        due("at first", x.mix(0), 0);
        x.setLevel(0, 13);
        x.setLevel(1, 30);
        x.tick(2);
        // 0.75f * 20.158737f is 15.119..; times 8 is 120.95..
        due("cast, not rounded", x.mix(1), 120);
        due("of 0", x.mix(0), 6144);
        due("of 2", x.mix(2), 6264);
        x.leave(2);
        due("it has left", x.mix(2), BAD_INDEX);
        x = withPhones(5);
        x.setSelection(4, 10, 6, 3);
        for (int p = 0; p < 4; p++) {
            x.setLevel(p, 60);
        }
        x.tick(99);
        due("four of the loudest", x.mix(4), 4 * 8 * 1048576);
    }

    private static void hears() {
        promise = 23;
        ConferenceBridges x = new ConferenceBridges();
        x.addBridge(0, 1, false);
        x.join(0, 0);
        x.join(0, 0);
        x.join(1, 0);
        for (int far : FAR) {
            due("listener " + far, x.hears(far, 0), BAD_INDEX);
            due("speaker " + far, x.hears(0, far), BAD_INDEX);
        }
        due("listener 3", x.hears(3, 0), BAD_INDEX);
        due("speaker 3", x.hears(0, 3), BAD_INDEX);
        x.setLevel(0, 30);
        due("nobody yet", x.hears(1, 0), 0);
        x.tick(1);
        due("at its bridge at once", x.hears(1, 0), 1);
        due("not itself", x.hears(0, 0), 0);
        due("not who does not speak", x.hears(0, 1), 0);
        due("not yet over the link", x.hears(2, 0), 0);
        x.tick(1);
        due("a tick later", x.hears(2, 0), 1);
        x.join(0, 0);
        due("one that joins hears nobody", x.hears(3, 0), 0);
        due("and its mix", x.mixBits(3), 0);
        x.move(1, 1);
        due("it stays until the next tick", x.hears(1, 0), 1);
        x.leave(0);
        due("one that has left is heard", x.hears(2, 0), 1);
        due("but does not hear", x.hears(0, 2), BAD_INDEX);
        x.tick(1);
        due("its stream had arrived", x.hears(2, 0), 1);
        due("at the new bridge, too", x.hears(1, 0), 1);
        due("not where it spoke", x.hears(3, 0), 0);
        x.tick(1);
        due("then no more", x.hears(2, 0), 0);
        due("a number below those that joined", x.hears(2, 3), 0);

        // Its own stream comes round to one that has moved: it never hears itself.
        x = new ConferenceBridges();
        x.addBridge(0, 1, false);
        x.join(0, 0);
        x.join(1, 0);
        x.setLevel(0, 30);
        x.tick(2);
        x.move(0, 1);
        x.tick(1);
        due("the other hears it", x.hears(1, 0), 1);
        due("only once", x.property(1, 8), 1);
        due("with its present loudness", x.mixBits(1), bits(896.0f));
        due("not itself", x.hears(0, 0), 0);
        due("its mix", x.mixBits(0), 0);
    }

    private static void stream() {
        promise = 24;
        ConferenceBridges x = new ConferenceBridges();
        x.addBridge(0, 4, false);
        x.addBridge(1, 4, false);
        for (int far : FAR) {
            due("bridge " + far, x.stream(far, 0, 0, 0), BAD_INDEX);
            due("neighbour " + far, x.stream(0, far, 0, 0), BAD_INDEX);
            due("what " + far, x.stream(0, 1, 0, far), BAD_VALUE);
        }
        due("bridge 3", x.stream(3, 0, -1, 0), BAD_INDEX);
        due("neighbour 3", x.stream(0, 3, 0, 3), BAD_INDEX);
        due("index -1", x.stream(0, 1, -1, 0), BAD_VALUE);
        due("index, far", x.stream(0, 1, Integer.MIN_VALUE, 0), BAD_VALUE);
        due("what 3", x.stream(0, 1, 0, 3), BAD_VALUE);
        due("no neighbours, bad index", x.stream(0, 2, -1, 0), BAD_VALUE);
        due("no neighbours, bad what", x.stream(0, 2, 0, -1), BAD_VALUE);
        due("no neighbours", x.stream(0, 2, 0, 0), BAD_STATE);
        due("no neighbours", x.stream(2, 0, 9, 0), BAD_STATE);
        due("the same one", x.stream(1, 1, 0, 0), BAD_STATE);
        due("none yet", x.stream(0, 1, 0, 0), NONE);
        due("far index", x.stream(1, 0, Integer.MAX_VALUE, 2), NONE);

        // The loudest first, of several the lowest number; ages and loudnesses.
        for (int p = 0; p < 4; p++) {
            x.join(0, 0);
            x.setLevel(p, p == 2 ? 33 : 30);
        }
        x.setSelection(4, 10, 6, 3);
        x.tick(1);
        int[] order = {2, 0, 1, 3};
        for (int i = 0; i < 4; i++) {
            due("speaker", x.stream(1, 0, i, 0), order[i]);
            due("age", x.stream(1, 0, i, 1), 1);
            due("loudness", x.stream(1, 0, i, 2), bits(i == 0 ? 1024.0f : 512.0f));
        }
        due("none more", x.stream(1, 0, 4, 0), NONE);
        due("none back", x.stream(0, 1, 0, 0), NONE);
        due("not yet farther", x.stream(2, 1, 0, 0), NONE);
        x.tick(1);
        due("farther", x.stream(2, 1, 0, 0), 2);
        due("its age", x.stream(2, 1, 0, 1), 2);
        due("it keeps its loudness", x.stream(2, 1, 0, 2), bits(1024.0f));
        due("the next one", x.stream(1, 0, 0, 2), bits(1536.0f));
        due("not back to where it came from", x.stream(0, 1, 0, 0), NONE);
        due("nor from the end", x.stream(1, 2, 0, 0), NONE);

        twoStreamsOfOneSpeaker();
        placesAreForTheLoudest();
    }

    /** A speaker that has moved nearer: of its two streams the one with the least age counts. */
    private static void twoStreamsOfOneSpeaker() {
        ConferenceBridges x = new ConferenceBridges();
        x.addBridge(0, 4, false);
        x.addBridge(1, 4, false);
        x.addBridge(0, 4, false);
        x.addBridge(0, 4, false);
        x.join(2, 0);
        x.join(0, 0);
        x.setLevel(0, 30);
        x.tick(2);
        x.move(0, 3);
        due("speaks at bridge 3", x.tick(1), 1);
        due("the old stream", x.stream(0, 1, 0, 1), 2);
        due("the old stream", x.stream(0, 1, 0, 2), bits(768.0f));
        due("the new stream", x.stream(0, 3, 0, 1), 1);
        due("the new stream", x.stream(0, 3, 0, 2), bits(896.0f));
        x.tick(1);
        due("one is heard", x.property(1, 8), 1);
        due("the new one", x.mixBits(1), bits(896.0f));
        due("the new one goes on", x.stream(4, 0, 0, 1), 2);
        due("the new one goes on", x.stream(4, 0, 0, 2), bits(896.0f));
        due("only once", x.stream(4, 0, 1, 0), NONE);
        due("also to where the old one came from", x.stream(1, 0, 0, 2), bits(896.0f));
        due("the old one to where the new one came from", x.stream(3, 0, 0, 1), 3);
        due("the old one to where the new one came from", x.stream(3, 0, 0, 2), bits(768.0f));
    }

    /** Own speakers and streams from elsewhere vie for the places by loudness alone. */
    private static void placesAreForTheLoudest() {
        ConferenceBridges x = new ConferenceBridges();
        x.addBridge(0, 4, false);
        x.addBridge(1, 2, false);
        int[] bridges = {0, 0, 1, 1, 2};
        int[] levels = {30, 36, 33, 27, 0};
        for (int p = 0; p < 5; p++) {
            x.join(bridges[p], 0);
            x.setLevel(p, levels[p]);
        }
        x.tick(99);
        due("loudest", x.stream(2, 1, 0, 0), 1);
        due("then the own one", x.stream(2, 1, 1, 0), 2);
        due("no third place", x.stream(2, 1, 2, 0), NONE);
        due("heard", x.hears(4, 1), 1);
        due("heard", x.hears(4, 2), 1);
        due("not heard", x.hears(4, 0), 0);
        due("not heard", x.hears(4, 3), 0);
        due("ages", x.stream(2, 1, 0, 1) * 10 + x.stream(2, 1, 1, 1), 21);
    }

    private static void distance() {
        promise = 25;
        ConferenceBridges x = new ConferenceBridges();
        int[] parents = {0, 1, 2, 0, 4, 5, 2};
        for (int parent : parents) {
            x.addBridge(parent, 1, false);
        }
        for (int p = 0; p < 8; p++) {
            x.join(p, 0);
        }
        int[][] want = {
            {0, 1, 2, 3, 1, 2, 3, 3}, {1, 0, 1, 2, 2, 3, 4, 2}, {2, 1, 0, 1, 3, 4, 5, 1}, {3, 2, 1, 0, 4, 5, 6, 2},
            {1, 2, 3, 4, 0, 1, 2, 4}, {2, 3, 4, 5, 1, 0, 1, 5}, {3, 4, 5, 6, 2, 1, 0, 6}, {3, 2, 1, 2, 4, 5, 6, 0}};
        for (int p = 0; p < 8; p++) {
            for (int q = 0; q < 8; q++) {
                due("distance(" + p + ", " + q + ")", x.distance(p, q), want[p][q]);
            }
        }
        for (int far : FAR) {
            due("one " + far, x.distance(far, 0), BAD_INDEX);
            due("other " + far, x.distance(0, far), BAD_INDEX);
        }
        due("one 8", x.distance(8, 0), BAD_INDEX);
        due("other 8", x.distance(0, 8), BAD_INDEX);
        x.move(3, 6);
        due("after a move", x.distance(3, 6), 0);
        x.leave(3);
        due("one has left", x.distance(3, 6), BAD_INDEX);
        due("the other has left", x.distance(6, 3), BAD_INDEX);

        // A line of eight bridges; a stream needs as many ticks.
        x = new ConferenceBridges();
        x.join(0, 0);
        for (int b = 1; b < 8; b++) {
            x.addBridge(b - 1, 1, false);
        }
        x.join(7, 0);
        due("distance", x.distance(0, 1), 7);
        x.setLevel(0, 30);
        x.tick(7);
        due("not yet", x.hears(1, 0), 0);
        x.tick(1);
        due("now", x.hears(1, 0), 1);
        due("what it was then", x.mixBits(1), bits(512.0f));
    }

    private static void waiting() {
        promise = 26;
        ConferenceBridges x = withPhones(6);
        due("none", x.waiting(0), BAD_INDEX);
        int[] priorities = {3, 9, 3, 0, 9, 5};
        for (int p = 5; p >= 0; p--) {
            x.request(p, priorities[p]);
        }
        int[] want = {4, 1, 5, 2, 0, 3};
        for (int i = 0; i < 6; i++) {
            due("waiting(" + i + ")", x.waiting(i), want[i]);
        }
        for (int far : FAR) {
            due("waiting(" + far + ")", x.waiting(far), BAD_INDEX);
        }
        due("waiting(6)", x.waiting(6), BAD_INDEX);
        x.giveUp(5);
        x.leave(4);
        int[] then = {1, 2, 0, 3};
        for (int i = 0; i < 4; i++) {
            due("waiting(" + i + ")", x.waiting(i), then[i]);
        }
        due("waiting(4)", x.waiting(4), BAD_INDEX);
        x.request(5, 3);
        due("a new request is the latest", x.waiting(3), 5);
        x.setFloor(true, 2, 50, 0);
        x.tick(1);
        due("granted in this order", x.waiting(0), 0);
        due("holders", x.property(1, 7) + x.property(2, 7), 4);
    }

    private static void foretell() {
        promise = 27;
        ConferenceBridges x = withPhones(2);
        for (int far : FAR) {
            due("participant " + far, x.foretell(far, 1), BAD_INDEX);
            due("many " + far, x.foretell(0, far), BAD_VALUE);
        }
        due("participant 2, bad many", x.foretell(2, 0), BAD_INDEX);
        due("many 0", x.foretell(0, 0), BAD_VALUE);
        due("many 100", x.foretell(0, 100), BAD_VALUE);
        due("never", x.foretell(0, 99), NONE);
        x.setLevel(0, 11);
        long digest = x.digest();
        due("not within 2", x.foretell(0, 2), NONE);
        due("the last one that is looked at", x.foretell(0, 3), 3);
        due("within 99", x.foretell(0, 99), 3);
        dueSame("foretell", x, digest);
        due("not recorded", x.undo(), 2);
        x.setLevel(0, 11);
        x.tick(3);
        due("now", x.foretell(0, 1), 0);
        due("now, bad many", x.foretell(0, 0), BAD_VALUE);
        x.setMuted(0, true);
        due("until the tick it is one", x.foretell(0, 1), 0);
        x.tick(1);
        due("muted", x.foretell(0, 99), NONE);
        x.leave(0);
        due("it has left", x.foretell(0, 1), BAD_INDEX);

        // It foretells what the ticks then bring, the floor and its limits too.
        x = withPhones(3);
        x.setFloor(true, 1, 50, 5);
        for (int p = 0; p < 3; p++) {
            x.setLevel(p, 30);
            x.request(p, 2);
        }
        digest = x.digest();
        due("first", x.foretell(0, 99), 1);
        due("second", x.foretell(1, 99), 6);
        due("third", x.foretell(2, 99), 11);
        due("third, too soon", x.foretell(2, 10), NONE);
        dueSame("foretell", x, digest);
        x.tick(10);
        due("not yet", x.property(2, 4), 0);
        x.tick(1);
        due("as foretold", x.property(2, 4), 1);

        // The last of 99 ticks.
        x = withPhones(2);
        x.setFloor(true, 1, 50, 98);
        x.setLevel(0, 30);
        x.setLevel(1, 30);
        x.request(0, 1);
        x.request(1, 1);
        due("in 99 ticks", x.foretell(1, 99), 99);
        due("not in 98", x.foretell(1, 98), NONE);
    }

    private static void event() {
        promise = 28;
        ConferenceBridges x = withPhones(2);
        due("none", x.event(0, 0), BAD_INDEX);
        x.setSelection(1, 10, 4, 0);
        x.setLevel(0, 30);
        x.tick(1);
        for (int far : FAR) {
            due("event " + far, x.event(far, 0), BAD_INDEX);
            due("what " + far, x.event(0, far), BAD_VALUE);
        }
        due("event 1, bad what", x.event(1, 3), BAD_INDEX);
        due("what 3", x.event(0, 3), BAD_VALUE);
        dueEvent(x, 0, 1, 0, 1);
        due("events", x.count(6), 1);

        // Mute and unmute, so that each tick has one event; the latest 30 are kept.
        for (int tick = 2; tick <= 36; tick++) {
            x.setMuted(0, tick % 2 == 0);
            x.tick(1);
            due("events", x.count(6), Math.min(tick, 30));
            dueEvent(x, 0, tick % 2 == 0 ? 5 : 1, 0, tick);
        }
        for (int event = 0; event < 30; event++) {
            dueEvent(x, event, event % 2 == 0 ? 5 : 1, 0, 36 - event);
        }
        due("the 31st is gone", x.event(30, 0), BAD_INDEX);
        x.undo();
        dueEvent(x, 0, 1, 0, 35);
        dueEvent(x, 29, 5, 0, 6);
    }

    private static void digest() {
        promise = 29;
        ConferenceBridges x = new ConferenceBridges();
        long hash = 17;
        for (int v : new int[] {1, 0, 0, 0, 0, 0, 0}) {
            hash = 31 * hash + v;
        }
        due("of a new object", x.digest(), hash);

        for (int ticks = 1; ticks <= 12; ticks++) {
            x = longAfter(ticks);
            due("in tick " + (4 + ticks), x.digest(), digestOf(x));
        }
        long before = x.digest();
        due("it changes nothing", x.digest(), before);
    }

    /** Four bridges and eleven participants with the floor on, and later off. */
    private static ConferenceBridges longAfter(int ticks) {
        ConferenceBridges x = new ConferenceBridges();
        x.addBridge(0, 4, false);
        x.addBridge(0, 2, true);
        x.addBridge(2, 3, false);
        for (int p = 0; p < 12; p++) {
            x.join(p % 4, 0);
            x.setLevel(p, 25 + p * 3 % 17);
        }
        x.request(3, 3);
        x.request(5, 3);
        x.tick(4);
        x.leave(4);
        x.setMuted(2, true);
        x.setFloor(true, 1, 50, 4);
        for (int tick = 1; tick <= ticks; tick++) {
            if (tick == 7) {
                x.setFloor(false, 1, 50, 4);
            }
            x.tick(1);
        }
        return x;
    }

    /** Through the other calls of the face. */
    private static long digestOf(ConferenceBridges x) {
        long hash = 17;
        for (int what = 0; what <= 6; what++) {
            hash = 31 * hash + x.count(what);
        }
        int joined = x.count(1);
        for (int p = 0; p < joined; p++) {
            if (x.property(p, 0) != BAD_INDEX) {
                for (int what = 0; what <= 8; what++) {
                    hash = 31 * hash + x.property(p, what);
                }
                hash = 31 * hash + x.loudnessBits(p);
                hash = 31 * hash + x.mixBits(p);
            }
        }
        int bridges = x.count(0);
        for (int bridge = 0; bridge < bridges; bridge++) {
            for (int neighbour = 0; neighbour < bridges; neighbour++) {
                int speaker = x.stream(bridge, neighbour, 0, 0);
                for (int i = 1; speaker >= 0; i++) {
                    hash = 31 * hash + speaker;
                    speaker = x.stream(bridge, neighbour, i, 0);
                }
            }
        }
        for (int event = x.count(6) - 1; event >= 0; event--) {
            for (int what = 0; what <= 2; what++) {
                hash = 31 * hash + x.event(event, what);
            }
        }
        return hash;
    }
}
