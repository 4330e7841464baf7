import java.util.ArrayList;
import java.util.Comparator;
import java.util.List;
import java.util.Random;
import java.util.TreeMap;
import java.util.TreeSet;

/**
 * Long mixed runs of calls, answered by the class and by a second, slower writing of the document
 * that shares nothing with it: objects and lists, whole copies for undo, a text read by tokens.
 */
public final class ModelTest {
    private static final int RUNS = 400;
    private static final int CALLS = 512;

    private static final int NONE = -1, BAD_INDEX = -2, BAD_VALUE = -3, BAD_STATE = -4, FULL = -5, WRONG_KIND = -6;

    private static int wrong = 0;

    public static void main(String[] args) {
        for (int run = 0; run < RUNS && wrong < 20; run++) {
            new Driver(run).drive();
        }
        System.out.println(wrong == 0 ? "all answers are as due" : wrong + " answers are not as due");
        if (wrong != 0) {
            System.exit(1);
        }
    }

    // ---- the second writing

    static final class Bridge {
        int parent;
        int places;
        boolean phonesOnly;

        Bridge(int parent, int places, boolean phonesOnly) {
            this.parent = parent;
            this.places = places;
            this.phonesOnly = phonesOnly;
        }
    }

    static final class Person {
        int number, bridge, kind, level, quiet, talk, holding, silent;
        int speaksAt = NONE;
        boolean gone, muted, holds;
        float loud, mix;
        TreeSet<Integer> heard = new TreeSet<>();

        Person copy() {
            Person c = new Person();
            c.number = number;
            c.bridge = bridge;
            c.kind = kind;
            c.level = level;
            c.quiet = quiet;
            c.talk = talk;
            c.holding = holding;
            c.silent = silent;
            c.speaksAt = speaksAt;
            c.gone = gone;
            c.muted = muted;
            c.holds = holds;
            c.loud = loud;
            c.mix = mix;
            c.heard = new TreeSet<>(heard);
            return c;
        }
    }

    record Wish(int person, int priority, int when) { }

    record Stream(int speaker, int age, float loud, int from) { }

    record Happening(int kind, int person, int tick) { }

    static final class World {
        List<Bridge> bridges = new ArrayList<>();
        List<Person> people = new ArrayList<>();
        List<Wish> wishes = new ArrayList<>();
        List<Happening> happenings = new ArrayList<>();
        /** By "to 100 times, and from". */
        TreeMap<Integer, List<Stream>> arrived = new TreeMap<>();
        int ticks, wishesMade;
        int speakers = 2, threshold = 10, hysteresis = 6, hang = 3;
        boolean floorOn;
        int tokens = 1, patience = 10, limit = 0;

        World copy() {
            World w = new World();
            w.bridges = new ArrayList<>(bridges);
            for (Person p : people) {
                w.people.add(p.copy());
            }
            w.wishes = new ArrayList<>(wishes);
            w.happenings = new ArrayList<>(happenings);
            for (int key : arrived.keySet()) {
                w.arrived.put(key, new ArrayList<>(arrived.get(key)));
            }
            w.ticks = ticks;
            w.wishesMade = wishesMade;
            w.speakers = speakers;
            w.threshold = threshold;
            w.hysteresis = hysteresis;
            w.hang = hang;
            w.floorOn = floorOn;
            w.tokens = tokens;
            w.patience = patience;
            w.limit = limit;
            return w;
        }

        Person person(int number) {
            if (number < 0 || number >= people.size() || people.get(number).gone) {
                return null;
            }
            return people.get(number);
        }

        boolean bridgeIs(int number) {
            return number >= 0 && number < bridges.size();
        }

        boolean neighbours(int one, int other) {
            return bridges.get(one).parent == other || bridges.get(other).parent == one;
        }

        int places(int one, int other) {
            return bridges.get(Math.max(one, other)).places;
        }

        List<Person> present() {
            List<Person> list = new ArrayList<>();
            for (Person p : people) {
                if (!p.gone) {
                    list.add(p);
                }
            }
            return list;
        }

        List<Person> holders() {
            List<Person> list = present();
            list.removeIf(p -> !p.holds);
            return list;
        }

        List<Wish> wishesInOrder() {
            List<Wish> list = new ArrayList<>(wishes);
            list.sort(Comparator.comparingInt((Wish w) -> -w.priority()).thenComparingInt(Wish::when));
            return list;
        }

        boolean wishes(int person) {
            return wishes.stream().anyMatch(w -> w.person() == person);
        }

        void happen(int kind, Person p) {
            happenings.add(new Happening(kind, p.number, ticks));
            if (happenings.size() > 30) {
                happenings.remove(0);
            }
        }

        // -- the five steps

        static float powerOf(int q) {
            float[] c = {1.0f, 1.2599211f, 1.587401f};
            float two = 1.0f;
            for (int i = 0; i < q / 3; i++) {
                two *= 2.0f;
            }
            return c[q % 3] * two;
        }

        void tick() {
            ticks++;
            float edge = powerOf(threshold);
            for (Person p : present()) {
                float power = p.muted || p.level == 0 ? 0.0f : powerOf(p.level);
                if (power > p.loud) {
                    p.loud = p.loud + (power - p.loud) * 0.5f;
                } else {
                    p.loud = p.loud + (power - p.loud) * 0.125f;
                }
                if (p.loud < edge) {
                    p.quiet++;
                } else {
                    p.quiet = 0;
                }
            }
            if (floorOn) {
                floorStep(edge);
            }
            for (int b = 0; b < bridges.size(); b++) {
                select(b, edge);
            }
            for (Person p : present()) {
                p.mix = 0.0f;
                p.heard.clear();
                for (Stream s : streamsAt(p.bridge, NONE).values()) {
                    if (s.speaker() != p.number) {
                        p.heard.add(s.speaker());
                        p.mix = p.mix + s.loud();
                    }
                }
            }
            sendAll();
        }

        void floorStep(float edge) {
            for (Person p : holders()) {
                p.holding++;
                p.silent = p.loud < edge ? p.silent + 1 : 0;
                if (p.silent > patience) {
                    p.holds = false;
                    happen(3, p);
                } else if (limit != 0 && p.holding >= limit && !wishes.isEmpty()) {
                    p.holds = false;
                    happen(4, p);
                }
            }
            while (holders().size() < tokens && !wishes.isEmpty()) {
                Wish first = wishesInOrder().get(0);
                wishes.remove(first);
                Person p = people.get(first.person());
                p.holds = true;
                p.holding = 0;
                p.silent = 0;
                happen(2, p);
            }
        }

        boolean maySpeak(Person p, int b) {
            return !p.gone && p.bridge == b && !p.muted && (!floorOn || p.holds);
        }

        List<Person> speakersOf(int b) {
            List<Person> list = new ArrayList<>(people);
            list.removeIf(p -> p.speaksAt != b);
            return list;
        }

        List<Person> candidates(int b, float edge) {
            List<Person> list = new ArrayList<>(people);
            list.removeIf(p -> !maySpeak(p, b) || p.speaksAt != NONE || p.loud < edge);
            list.sort((x, y) -> x.loud != y.loud ? Float.compare(y.loud, x.loud) : x.number - y.number);
            return list;
        }

        Person leastSpeaker(int b) {
            List<Person> list = speakersOf(b);
            list.sort((x, y) -> x.loud != y.loud ? Float.compare(x.loud, y.loud) : y.number - x.number);
            return list.get(0);
        }

        void select(int b, float edge) {
            for (Person p : speakersOf(b)) {
                if (!maySpeak(p, b) || p.quiet > hang) {
                    p.speaksAt = NONE;
                    happen(5, p);
                }
            }
            while (speakersOf(b).size() > speakers) {
                Person p = leastSpeaker(b);
                p.speaksAt = NONE;
                happen(5, p);
            }
            while (speakersOf(b).size() < speakers && !candidates(b, edge).isEmpty()) {
                Person p = candidates(b, edge).get(0);
                p.speaksAt = b;
                happen(1, p);
            }
            if (!candidates(b, edge).isEmpty()) {
                Person c = candidates(b, edge).get(0);
                Person q = leastSpeaker(b);
                if (c.loud > q.loud * hysteresis / 4.0f) {
                    q.speaksAt = NONE;
                    happen(5, q);
                    c.speaksAt = b;
                    happen(1, c);
                }
            }
            for (Person p : speakersOf(b)) {
                p.talk++;
            }
        }

        /** By speaker; but for those from one neighbour. */
        TreeMap<Integer, Stream> streamsAt(int b, int without) {
            List<Stream> all = new ArrayList<>();
            for (Person p : speakersOf(b)) {
                all.add(new Stream(p.number, 0, p.loud, NONE));
            }
            for (int n = 0; n < bridges.size(); n++) {
                if (n != without) {
                    all.addAll(arrived.getOrDefault(b * 100 + n, List.of()));
                }
            }
            all.sort(Comparator.comparingInt(Stream::age).thenComparingInt(Stream::from));
            TreeMap<Integer, Stream> counting = new TreeMap<>();
            for (Stream s : all) {
                counting.putIfAbsent(s.speaker(), s);
            }
            return counting;
        }

        void sendAll() {
            TreeMap<Integer, List<Stream>> sent = new TreeMap<>();
            for (int x = 0; x < bridges.size(); x++) {
                for (int y = 0; y < bridges.size(); y++) {
                    if (x != y && neighbours(x, y)) {
                        List<Stream> list = new ArrayList<>(streamsAt(x, y).values());
                        list.sort((s, t) -> s.loud() != t.loud() ? Float.compare(t.loud(), s.loud())
                                : s.speaker() - t.speaker());
                        List<Stream> out = new ArrayList<>();
                        for (int i = 0; i < places(x, y) && i < list.size(); i++) {
                            Stream s = list.get(i);
                            out.add(new Stream(s.speaker(), s.age() + 1, s.loud(), x));
                        }
                        sent.put(y * 100 + x, out);
                    }
                }
            }
            arrived = sent;
        }
    }

    static final class Model {
        World w = new World();
        List<World> past = new ArrayList<>();
        StringBuilder text = new StringBuilder();
        boolean recording = true;

        Model() {
            w.bridges.add(new Bridge(NONE, 0, false));
        }

        void record() {
            if (recording) {
                past.add(w.copy());
                if (past.size() > 5) {
                    past.remove(0);
                }
            }
        }

        static boolean out(int v, int least, int most) {
            return v < least || v > most;
        }

        int addBridge(int parent, int places, boolean phonesOnly) {
            if (!w.bridgeIs(parent)) return BAD_INDEX;
            if (out(places, 1, 4)) return BAD_VALUE;
            if (w.bridges.size() == 8) return FULL;
            record();
            w.bridges.add(new Bridge(parent, places, phonesOnly));
            return w.bridges.size() - 1;
        }

        long at(int bridge) {
            return w.present().stream().filter(p -> p.bridge == bridge).count();
        }

        int join(int bridge, int kind) {
            if (!w.bridgeIs(bridge)) return BAD_INDEX;
            if (out(kind, 0, 1)) return BAD_VALUE;
            if (w.people.size() == 20 || at(bridge) == 6) return FULL;
            if (kind == 1 && w.bridges.get(bridge).phonesOnly) return WRONG_KIND;
            record();
            Person p = new Person();
            p.number = w.people.size();
            p.bridge = bridge;
            p.kind = kind;
            w.people.add(p);
            return p.number;
        }

        int leave(int participant) {
            Person p = w.person(participant);
            if (p == null) return BAD_INDEX;
            record();
            p.gone = true;
            p.holds = false;
            w.wishes.removeIf(x -> x.person() == participant);
            return w.present().size();
        }

        int move(int participant, int bridge) {
            Person p = w.person(participant);
            if (p == null || !w.bridgeIs(bridge)) return BAD_INDEX;
            if (p.bridge != bridge && at(bridge) == 6) return FULL;
            if (p.kind == 1 && w.bridges.get(bridge).phonesOnly) return WRONG_KIND;
            record();
            int was = p.bridge;
            p.bridge = bridge;
            return was;
        }

        int setLevel(int participant, int level) {
            Person p = w.person(participant);
            if (p == null) return BAD_INDEX;
            if (out(level, 0, 60)) return BAD_VALUE;
            record();
            int was = p.level;
            p.level = level;
            return was;
        }

        int setMuted(int participant, boolean muted) {
            Person p = w.person(participant);
            if (p == null) return BAD_INDEX;
            record();
            boolean was = p.muted;
            p.muted = muted;
            return was ? 1 : 0;
        }

        int setSelection(int speakers, int threshold, int hysteresis, int hang) {
            if (out(speakers, 1, 4) || out(threshold, 1, 60) || out(hysteresis, 4, 16) || out(hang, 0, 20)) {
                return BAD_VALUE;
            }
            record();
            int was = w.speakers;
            w.speakers = speakers;
            w.threshold = threshold;
            w.hysteresis = hysteresis;
            w.hang = hang;
            return was;
        }

        int setFloor(boolean on, int tokens, int patience, int limit) {
            if (out(tokens, 1, 4) || out(patience, 1, 50) || out(limit, 0, 100)) return BAD_VALUE;
            record();
            boolean was = w.floorOn;
            w.floorOn = on;
            w.tokens = tokens;
            w.patience = patience;
            w.limit = limit;
            return was ? 1 : 0;
        }

        int request(int participant, int priority) {
            Person p = w.person(participant);
            if (p == null) return BAD_INDEX;
            if (out(priority, 0, 9)) return BAD_VALUE;
            if (p.holds || w.wishes(participant)) return BAD_STATE;
            record();
            w.wishes.add(new Wish(participant, priority, w.wishesMade++));
            return w.wishes.size();
        }

        int giveUp(int participant) {
            Person p = w.person(participant);
            if (p == null) return BAD_INDEX;
            if (!p.holds && !w.wishes(participant)) return BAD_STATE;
            record();
            int answer = p.holds ? 1 : 0;
            p.holds = false;
            w.wishes.removeIf(x -> x.person() == participant);
            return answer;
        }

        int tick(int many) {
            if (out(many, 1, 99)) return BAD_VALUE;
            record();
            for (int i = 0; i < many; i++) {
                w.tick();
            }
            return (int) w.people.stream().filter(p -> p.speaksAt != NONE).count();
        }

        int undo() {
            if (past.isEmpty()) return BAD_STATE;
            w = past.remove(past.size() - 1);
            return past.size();
        }

        int type(int code) {
            if (out(code, 0, 255)) return BAD_VALUE;
            if (text.length() == 100) return FULL;
            text.append((char) code);
            return text.length();
        }

        int clearText() {
            int was = text.length();
            text.setLength(0);
            return was;
        }

        /** Tokens: a letter or other byte by itself, a run of digits as one; blanks only part them. */
        List<int[]> tokens() {
            List<int[]> list = new ArrayList<>();
            int i = 0;
            while (i < text.length()) {
                int start = i;
                if (Character.isDigit(text.charAt(i)) && text.charAt(i) < 128) {
                    while (i < text.length() && text.charAt(i) >= '0' && text.charAt(i) <= '9') {
                        i++;
                    }
                    list.add(new int[] {start, i});
                } else {
                    i++;
                    if (text.charAt(start) != ' ') {
                        list.add(new int[] {start, i});
                    }
                }
            }
            return list;
        }

        /** State 0: a letter is due; 1, 2: so many numbers are due; 3: a semicolon or the end. */
        int textFault() {
            int state = 0;
            for (int[] token : tokens()) {
                String s = text.substring(token[0], token[1]);
                boolean number = s.charAt(0) >= '0' && s.charAt(0) <= '9' && s.length() <= 2;
                if (state == 0 && "LMR".contains(s)) {
                    state = 2;
                } else if (state == 0 && "TFU".contains(s)) {
                    state = 1;
                } else if (state == 2 && number) {
                    state = 1;
                } else if (state == 1 && number) {
                    state = 3;
                } else if (state == 3 && s.equals(";")) {
                    state = 0;
                } else {
                    return token[0];
                }
            }
            return state == 3 ? NONE : text.length();
        }

        int run() {
            if (textFault() != NONE) return BAD_STATE;
            record();
            recording = false;
            int done = 0;
            for (String order : text.toString().split(";")) {
                String[] n = order.replaceFirst("[A-Z]", " ").trim().split(" +");
                int a = Integer.parseInt(n[0]);
                int b = n.length > 1 ? Integer.parseInt(n[1]) : 0;
                int answer = switch (order.trim().charAt(0)) {
                    case 'L' -> setLevel(a, b);
                    case 'M' -> move(a, b);
                    case 'R' -> request(a, b);
                    case 'T' -> tick(a);
                    case 'F' -> giveUp(a);
                    default -> setMuted(a, w.person(a) == null || !w.person(a).muted);
                };
                if (answer < 0) {
                    break;
                }
                done++;
            }
            recording = true;
            return done;
        }

        int count(int what) {
            return switch (what) {
                case 0 -> w.bridges.size();
                case 1 -> w.people.size();
                case 2 -> w.present().size();
                case 3 -> w.ticks;
                case 4 -> w.wishes.size();
                case 5 -> w.holders().size();
                case 6 -> w.happenings.size();
                default -> BAD_VALUE;
            };
        }

        int property(int participant, int what) {
            Person p = w.person(participant);
            if (p == null) return BAD_INDEX;
            return switch (what) {
                case 0 -> p.bridge;
                case 1 -> p.kind;
                case 2 -> p.level;
                case 3 -> p.muted ? 1 : 0;
                case 4 -> p.speaksAt == NONE ? 0 : 1;
                case 5 -> p.talk;
                case 6 -> p.quiet;
                case 7 -> p.holds ? 2 : w.wishes(participant) ? 1 : 0;
                case 8 -> p.heard.size();
                default -> BAD_VALUE;
            };
        }

        int loudnessBits(int participant) {
            Person p = w.person(participant);
            return p == null ? BAD_INDEX : Float.floatToIntBits(p.loud);
        }

        int mixBits(int participant) {
            Person p = w.person(participant);
            return p == null ? BAD_INDEX : Float.floatToIntBits(p.mix);
        }

        int mix(int participant) {
            Person p = w.person(participant);
            return p == null ? BAD_INDEX : (int) (p.mix * 8.0f);
        }

        int hears(int listener, int speaker) {
            Person p = w.person(listener);
            if (p == null || out(speaker, 0, w.people.size() - 1)) return BAD_INDEX;
            return p.heard.contains(speaker) ? 1 : 0;
        }

        int stream(int bridge, int neighbour, int index, int what) {
            if (!w.bridgeIs(bridge) || !w.bridgeIs(neighbour)) return BAD_INDEX;
            if (index < 0 || out(what, 0, 2)) return BAD_VALUE;
            if (!w.neighbours(bridge, neighbour)) return BAD_STATE;
            List<Stream> list = w.arrived.getOrDefault(bridge * 100 + neighbour, List.of());
            if (index >= list.size()) return NONE;
            Stream s = list.get(index);
            return what == 0 ? s.speaker() : what == 1 ? s.age() : Float.floatToIntBits(s.loud());
        }

        List<Integer> wayUp(int bridge) {
            List<Integer> way = new ArrayList<>();
            for (int b = bridge; b != NONE; b = w.bridges.get(b).parent) {
                way.add(b);
            }
            return way;
        }

        int distance(int one, int other) {
            Person p = w.person(one);
            Person q = w.person(other);
            if (p == null || q == null) return BAD_INDEX;
            List<Integer> up = wayUp(p.bridge);
            List<Integer> down = wayUp(q.bridge);
            long shared = up.stream().filter(down::contains).count();
            return (int) (up.size() + down.size() - 2 * shared);
        }

        int waiting(int index) {
            return out(index, 0, w.wishes.size() - 1) ? BAD_INDEX : w.wishesInOrder().get(index).person();
        }

        int foretell(int participant, int many) {
            if (w.person(participant) == null) return BAD_INDEX;
            if (out(many, 1, 99)) return BAD_VALUE;
            World ahead = w.copy();
            for (int n = 0; n <= many; n++) {
                if (ahead.people.get(participant).speaksAt != NONE) return n;
                ahead.tick();
            }
            return NONE;
        }

        int event(int event, int what) {
            if (out(event, 0, w.happenings.size() - 1)) return BAD_INDEX;
            Happening h = w.happenings.get(w.happenings.size() - 1 - event);
            return what == 0 ? h.kind() : what == 1 ? h.person() : what == 2 ? h.tick() : BAD_VALUE;
        }

        long digest() {
            List<Integer> all = new ArrayList<>();
            for (int what = 0; what <= 6; what++) {
                all.add(count(what));
            }
            for (Person p : w.present()) {
                for (int what = 0; what <= 8; what++) {
                    all.add(property(p.number, what));
                }
                all.add(loudnessBits(p.number));
                all.add(mixBits(p.number));
            }
            for (List<Stream> list : w.arrived.values()) {
                for (Stream s : list) {
                    all.add(s.speaker());
                }
            }
            for (Happening h : w.happenings) {
                all.addAll(List.of(h.kind(), h.person(), h.tick()));
            }
            long hash = 17;
            for (int v : all) {
                hash = 31 * hash + v;
            }
            return hash;
        }
    }

    // ---- the runs

    static final class Driver {
        final int run;
        final Random dice;
        final ConferenceBridges x = new ConferenceBridges();
        final Model m = new Model();
        int calls = 0;

        Driver(int run) {
            this.run = run;
            dice = new Random(977L * run + 5);
        }

        void due(String call, long got, long want) {
            calls++;
            if (got != want) {
                wrong++;
                System.out.println("run " + run + ", call " + calls + ": " + call + " answered " + got
                        + ", due is " + want);
            }
        }

        void drive() {
            for (int i = 0; i < 8; i++) {
                grow();
            }
            // Every third run goes back and forth much more than the others.
            int undos = run % 3 == 0 ? 14 : 2;
            while (calls < CALLS - 12 && wrong < 20) {
                int way = dice.nextInt(98 + undos);
                if (way < 8) {
                    grow();
                } else if (way < 40) {
                    change();
                } else if (way < 58) {
                    pass();
                } else if (way < 66) {
                    write();
                } else if (way < 66 + undos) {
                    goBack();
                } else {
                    look();
                }
            }
            due("digest()", x.digest(), m.digest());
        }

        /** Undoes some calls, and then mostly grows or ticks where something was undone. */
        void goBack() {
            for (int more = 1 + dice.nextInt(6); more > 0; more--) {
                due("undo()", x.undo(), m.undo());
            }
            if (dice.nextBoolean()) {
                pass();
            }
            if (dice.nextBoolean()) {
                grow();
            }
            due("digest()", x.digest(), m.digest());
        }

        /** Mostly within the bounds, at times just outside or far outside. */
        int pick(int least, int most) {
            int way = dice.nextInt(60);
            if (way == 0) return least - 1;
            if (way == 1) return most + 1;
            if (way == 2) return dice.nextInt();
            if (way < 6) return least;
            if (way < 9) return most;
            return least + dice.nextInt(Math.max(1, most - least + 1));
        }

        int person() {
            return pick(0, m.w.people.size() - 1);
        }

        int bridge() {
            return pick(0, m.w.bridges.size() - 1);
        }

        /** Few levels, so that equal loudnesses are met often. */
        int level() {
            int[] some = {0, 9, 10, 11, 24, 24, 24, 26, 30, 30, 33, 60};
            return dice.nextInt(4) == 0 ? pick(0, 60) : some[dice.nextInt(some.length)];
        }

        void grow() {
            if (dice.nextInt(3) == 0) {
                int parent = bridge();
                int places = pick(1, 4);
                boolean phones = dice.nextInt(5) == 0;
                due("addBridge(" + parent + ", " + places + ", " + phones + ")",
                        x.addBridge(parent, places, phones), m.addBridge(parent, places, phones));
            } else {
                int b = bridge();
                int kind = pick(0, 1);
                due("join(" + b + ", " + kind + ")", x.join(b, kind), m.join(b, kind));
            }
        }

        void change() {
            int p = person();
            int b = bridge();
            int v = level();
            int k = pick(0, 9);
            boolean yes = dice.nextBoolean();
            switch (dice.nextInt(40)) {
                case 0 -> due("leave(" + p + ")", x.leave(p), m.leave(p));
                case 1, 2, 3, 4, 5, 6, 7 -> due("move(" + p + ", " + b + ")", x.move(p, b), m.move(p, b));
                case 8, 9, 10 -> due("setMuted(" + p + ", " + yes + ")", x.setMuted(p, yes), m.setMuted(p, yes));
                case 11, 12 -> selection();
                case 13, 14 -> floor();
                case 15, 16, 17, 18, 19 -> due("request(" + p + ", " + k + ")", x.request(p, k), m.request(p, k));
                case 20, 21 -> due("giveUp(" + p + ")", x.giveUp(p), m.giveUp(p));
                default -> due("setLevel(" + p + ", " + v + ")", x.setLevel(p, v), m.setLevel(p, v));
            }
        }

        void selection() {
            int s = pick(1, 4);
            int t = dice.nextInt(3) == 0 ? pick(1, 60) : pick(8, 12);
            int h = pick(4, 16);
            int g = pick(0, 20);
            due("setSelection(" + s + ", " + t + ", " + h + ", " + g + ")",
                    x.setSelection(s, t, h, g), m.setSelection(s, t, h, g));
        }

        void floor() {
            boolean on = dice.nextBoolean();
            int t = pick(1, 4);
            int p = dice.nextInt(2) == 0 ? pick(1, 50) : pick(1, 4);
            int l = dice.nextInt(2) == 0 ? pick(0, 100) : pick(0, 4);
            due("setFloor(" + on + ", " + t + ", " + p + ", " + l + ")",
                    x.setFloor(on, t, p, l), m.setFloor(on, t, p, l));
        }

        void pass() {
            int n = dice.nextInt(12) == 0 ? pick(1, 99) : pick(1, 3);
            due("tick(" + n + ")", x.tick(n), m.tick(n));
        }

        String order() {
            String gap = dice.nextInt(4) == 0 ? " " : "";
            int p = Math.floorMod(person(), 100);
            return gap + switch (dice.nextInt(7)) {
                case 0 -> "L" + gap + p + " " + Math.floorMod(level(), 100);
                case 1 -> "M" + gap + p + " " + gap + Math.floorMod(bridge(), 100);
                case 2 -> "R" + p + " " + Math.floorMod(pick(0, 9), 100) + gap;
                case 3, 4 -> "T" + (dice.nextInt(4) == 0 ? "0" : "") + (1 + dice.nextInt(5));
                case 5 -> "F" + gap + p;
                default -> "U" + gap + p;
            } + gap;
        }

        void write() {
            StringBuilder line = new StringBuilder(order());
            while (dice.nextInt(3) != 0) {
                line.append(';').append(order());
            }
            if (dice.nextInt(3) == 0) {
                String odd = "LTU;; 019xl/:" + (char) 0 + (char) 160 + (char) 255;
                int place = dice.nextInt(line.length() + 1);
                line.insert(place, odd.charAt(dice.nextInt(odd.length())));
            }
            due("clearText()", x.clearText(), m.clearText());
            for (int i = 0; i < line.length() && calls < CALLS - 4; i++) {
                due("type(" + (int) line.charAt(i) + ")", x.type(line.charAt(i)), m.type(line.charAt(i)));
            }
            due("textFault() of '" + m.text + "'", x.textFault(), m.textFault());
            due("run() of '" + m.text + "'", x.run(), m.run());
        }

        void look() {
            int p = person();
            int q = person();
            int b = bridge();
            int n = dice.nextInt(6) == 0 ? bridge() : neighbourOf(b);
            int i = pick(0, 3);
            switch (dice.nextInt(14)) {
                case 0 -> { int w = pick(0, 6); due("count(" + w + ")", x.count(w), m.count(w)); }
                case 1 -> { int w = pick(0, 8); due("property(" + p + ", " + w + ")", x.property(p, w), m.property(p, w)); }
                case 2 -> due("loudnessBits(" + p + ")", x.loudnessBits(p), m.loudnessBits(p));
                case 3 -> due("mixBits(" + p + ")", x.mixBits(p), m.mixBits(p));
                case 4 -> due("mix(" + p + ")", x.mix(p), m.mix(p));
                case 5 -> due("hears(" + p + ", " + q + ")", x.hears(p, q), m.hears(p, q));
                case 6, 7 -> {
                    int w = pick(0, 2);
                    due("stream(" + b + ", " + n + ", " + i + ", " + w + ")", x.stream(b, n, i, w), m.stream(b, n, i, w));
                }
                case 8 -> due("distance(" + p + ", " + q + ")", x.distance(p, q), m.distance(p, q));
                case 9 -> due("waiting(" + i + ")", x.waiting(i), m.waiting(i));
                case 10 -> {
                    int w = dice.nextInt(2) == 0 ? pick(1, 99) : pick(1, 5);
                    due("foretell(" + p + ", " + w + ")", x.foretell(p, w), m.foretell(p, w));
                }
                case 11 -> {
                    int e = pick(0, 29);
                    int w = pick(0, 2);
                    due("event(" + e + ", " + w + ")", x.event(e, w), m.event(e, w));
                }
                default -> due("digest()", x.digest(), m.digest());
            }
        }

        int neighbourOf(int b) {
            int found = 0;
            for (int n = 0; n < m.w.bridges.size(); n++) {
                if (m.w.bridgeIs(b) && m.w.neighbours(b, n) && (found == 0 || dice.nextBoolean())) {
                    found = n;
                }
            }
            return found;
        }
    }
}
