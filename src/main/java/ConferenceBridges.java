/**
 * Conference bridges: participants talk at bridges that are joined to a tree.
 *
 * The class itself answers the calls; the state that undo() brings back is a Conference, and its
 * rows are made once, in constructors, and copied from then on.
 */
public final class ConferenceBridges {
    public static final int NONE = -1, BAD_INDEX = -2, BAD_VALUE = -3, BAD_STATE = -4, FULL = -5, WRONG_KIND = -6;

    private static final int MOST_BRIDGES = 8;
    private static final int MOST_AT_BRIDGE = 6;
    private static final int MOST_PEOPLE = 20;
    private static final int MOST_PLACES = 4;
    private static final int MOST_SPEAKERS = 4;
    private static final int MOST_TOKENS = 4;
    private static final int MOST_LEVEL = 60;
    private static final int MOST_TICKS = 99;

    private static final int PHONE = 0;
    private static final int ROOM = 1;

    private static final int BECAME_SPEAKER = 1;
    private static final int GOT_FLOOR = 2;
    private static final int LOST_FLOOR_SILENT = 3;
    private static final int LOST_FLOOR_LIMIT = 4;
    private static final int NO_SPEAKER_ANY_MORE = 5;

    private static final int LAST_COUNT = 6;
    private static final int LAST_PROPERTY = 8;

    private final Conference now;
    private final Conference trial;
    private final Mixer mixer;
    private final History history;
    private final OrderText text;

    public ConferenceBridges() {
        now = new Conference();
        trial = new Conference();
        mixer = new Mixer();
        history = new History();
        text = new OrderText();
    }

    // ---- bridges, participants

    public int addBridge(int parent, int places, boolean phonesOnly) {
        history.draft(now);
        return history.settle(now.linkBridge(parent, places, phonesOnly));
    }

    public int join(int bridge, int kind) {
        history.draft(now);
        return history.settle(now.admit(bridge, kind));
    }

    public int leave(int participant) {
        history.draft(now);
        return history.settle(now.dismiss(participant));
    }

    public int move(int participant, int bridge) {
        history.draft(now);
        return history.settle(now.transfer(participant, bridge));
    }

    public int setLevel(int participant, int level) {
        history.draft(now);
        return history.settle(now.changeLevel(participant, level));
    }

    public int setMuted(int participant, boolean muted) {
        history.draft(now);
        return history.settle(now.changeMuted(participant, muted));
    }

    // ---- settings, floor

    public int setSelection(int speakers, int threshold, int hysteresis, int hang) {
        history.draft(now);
        return history.settle(now.settings.changeSelection(speakers, threshold, hysteresis, hang));
    }

    public int setFloor(boolean on, int tokens, int patience, int limit) {
        history.draft(now);
        return history.settle(now.settings.changeFloor(on, tokens, patience, limit));
    }

    public int request(int participant, int priority) {
        history.draft(now);
        return history.settle(now.askFloor(participant, priority));
    }

    public int giveUp(int participant) {
        history.draft(now);
        return history.settle(now.yieldFloor(participant));
    }

    // ---- time

    public int tick(int many) {
        history.draft(now);
        return history.settle(now.passTicks(many, mixer));
    }

    public int undo() {
        return history.restore(now);
    }

    // ---- text

    public int type(int code) {
        return text.append(code);
    }

    public int clearText() {
        return text.empty();
    }

    public int textFault() {
        return text.scan();
    }

    public int run() {
        if (text.scan() != NONE) {
            return BAD_STATE;
        }
        history.draft(now);
        int done = 0;
        while (done < text.orders && carryOut(done) >= 0) {
            done++;
        }
        return history.settle(done);
    }

    private int carryOut(int order) {
        int first = text.first[order];
        int second = text.second[order];
        switch (text.letter[order]) {
            case 'L':
                return now.changeLevel(first, second);
            case 'M':
                return now.transfer(first, second);
            case 'R':
                return now.askFloor(first, second);
            case 'T':
                return now.passTicks(first, mixer);
            case 'F':
                return now.yieldFloor(first);
            default:
                return now.toggleMuted(first);
        }
    }

    // ---- what there is

    public int count(int what) {
        switch (what) {
            case 0:
                return now.tree.size;
            case 1:
                return now.people.joined;
            case 2:
                return now.people.present;
            case 3:
                return now.ticks;
            case 4:
                return now.floor.waiting;
            case 5:
                return now.floor.holders();
            case LAST_COUNT:
                return now.events.kept;
            default:
                return BAD_VALUE;
        }
    }

    public int property(int participant, int what) {
        People people = now.people;
        if (!people.isPresent(participant)) {
            return BAD_INDEX;
        }
        switch (what) {
            case 0:
                return people.bridge[participant];
            case 1:
                return people.kind[participant];
            case 2:
                return people.level[participant];
            case 3:
                return people.muted[participant];
            case 4:
                return people.speakerOf[participant] == NONE ? 0 : 1;
            case 5:
                return people.talkTime[participant];
            case 6:
                return people.quietTime[participant];
            case 7:
                return now.floor.standing(participant);
            case LAST_PROPERTY:
                return Integer.bitCount(people.heard[participant]);
            default:
                return BAD_VALUE;
        }
    }

    public int loudnessBits(int participant) {
        return now.people.isPresent(participant) ? bitsOf(now.people.loudness[participant]) : BAD_INDEX;
    }

    public int mixBits(int participant) {
        return now.people.isPresent(participant) ? bitsOf(now.people.mix[participant]) : BAD_INDEX;
    }

    public int mix(int participant) {
        return now.people.isPresent(participant) ? (int) (now.people.mix[participant] * 8.0f) : BAD_INDEX;
    }

    public int hears(int listener, int speaker) {
        if (!now.people.isPresent(listener) || speaker < 0 || speaker >= now.people.joined) {
            return BAD_INDEX;
        }
        return (now.people.heard[listener] >> speaker) & 1;
    }

    public int stream(int bridge, int neighbour, int index, int what) {
        if (!now.tree.has(bridge) || !now.tree.has(neighbour)) {
            return BAD_INDEX;
        }
        if (index < 0 || !isWithin(what, 0, 2)) {
            return BAD_VALUE;
        }
        int way = now.tree.wayInto(bridge, neighbour);
        if (way == NONE) {
            return BAD_STATE;
        }
        if (index >= now.arrived.size[way]) {
            return NONE;
        }
        int place = way * MOST_PLACES + index;
        switch (what) {
            case 0:
                return now.arrived.speaker[place];
            case 1:
                return now.arrived.age[place];
            default:
                return bitsOf(now.arrived.loudness[place]);
        }
    }

    public int distance(int one, int other) {
        if (!now.people.isPresent(one) || !now.people.isPresent(other)) {
            return BAD_INDEX;
        }
        return now.tree.linksBetween(now.people.bridge[one], now.people.bridge[other]);
    }

    public int waiting(int index) {
        return index >= 0 && index < now.floor.waiting ? now.floor.queue[index] : BAD_INDEX;
    }

    public int foretell(int participant, int many) {
        if (!now.people.isPresent(participant)) {
            return BAD_INDEX;
        }
        if (!isWithin(many, 1, MOST_TICKS)) {
            return BAD_VALUE;
        }
        trial.copyFrom(now);
        // What is heard and sent has no part in who speaks, so the first three steps are enough.
        for (int passed = 0; passed < many; passed++) {
            if (trial.people.speakerOf[participant] != NONE) {
                return passed;
            }
            trial.beginTick();
        }
        return trial.people.speakerOf[participant] != NONE ? many : NONE;
    }

    public int event(int event, int what) {
        EventLog events = now.events;
        if (event < 0 || event >= events.kept) {
            return BAD_INDEX;
        }
        int place = events.placeOf(event);
        switch (what) {
            case 0:
                return events.kind[place];
            case 1:
                return events.participant[place];
            case 2:
                return events.tick[place];
            default:
                return BAD_VALUE;
        }
    }

    public long digest() {
        long hash = 17;
        for (int what = 0; what <= LAST_COUNT; what++) {
            hash = 31 * hash + count(what);
        }
        return hashEvents(hashStreams(hashPeople(hash)));
    }

    private long hashPeople(long start) {
        long hash = start;
        for (int p = 0; p < now.people.joined; p++) {
            if (now.people.isPresent(p)) {
                for (int what = 0; what <= LAST_PROPERTY; what++) {
                    hash = 31 * hash + property(p, what);
                }
                hash = 31 * hash + loudnessBits(p);
                hash = 31 * hash + mixBits(p);
            }
        }
        return hash;
    }

    private long hashStreams(long start) {
        long hash = start;
        for (int bridge = 0; bridge < now.tree.size; bridge++) {
            for (int neighbour = 0; neighbour < now.tree.size; neighbour++) {
                int way = now.tree.wayInto(bridge, neighbour);
                int many = way == NONE ? 0 : now.arrived.size[way];
                for (int index = 0; index < many; index++) {
                    hash = 31 * hash + now.arrived.speaker[way * MOST_PLACES + index];
                }
            }
        }
        return hash;
    }

    private long hashEvents(long start) {
        long hash = start;
        for (int event = now.events.kept - 1; event >= 0; event--) {
            for (int what = 0; what <= 2; what++) {
                hash = 31 * hash + event(event, what);
            }
        }
        return hash;
    }

    // ---- numbers

    private static boolean isWithin(int value, int least, int most) {
        return value >= least && value <= most;
    }

    private static float power(int level) {
        int third = level % 3;
        float base = third == 0 ? 1.0f : third == 1 ? 1.2599211f : 1.587401f;
        return base * (float) (1 << (level / 3));
    }

    /**
     * The bits of a float that is not negative. Float.floatToIntBits is not in the library that
     * LANGUAGE.md leaves; scaling by 2 is exact, so the exponent can be counted out.
     */
    private static int bitsOf(float value) {
        float scaled = value > 0.0f ? value : 0.0f;
        int exponent = 127;
        while (scaled >= 2.0f && exponent < 254) {
            scaled = scaled / 2.0f;
            exponent++;
        }
        // At exponent 1 the halving stops: what is below 1 then is a float without a leading one.
        while (scaled < 1.0f && exponent > 1) {
            scaled = scaled * 2.0f;
            exponent--;
        }
        // The leading one of the fraction, if there is one, carries over into the exponent.
        return ((exponent - 1) << 23) + (int) (scaled * 8388608.0f);
    }

    /** All that undo() brings back. */
    private static final class Conference {
        int ticks;
        final Settings settings = new Settings();
        final Tree tree = new Tree();
        final People people = new People();
        final Floor floor = new Floor();
        final Streams arrived = new Streams();
        final EventLog events = new EventLog();

        void copyFrom(Conference other) {
            ticks = other.ticks;
            settings.copyFrom(other.settings);
            tree.copyFrom(other.tree);
            people.copyFrom(other.people);
            floor.copyFrom(other.floor);
            arrived.copyFrom(other.arrived);
            events.copyFrom(other.events);
        }

        int linkBridge(int parent, int places, boolean phonesOnly) {
            if (!tree.has(parent)) {
                return BAD_INDEX;
            }
            if (!isWithin(places, 1, MOST_PLACES)) {
                return BAD_VALUE;
            }
            if (tree.size >= MOST_BRIDGES) {
                return FULL;
            }
            return tree.add(parent, places, phonesOnly);
        }

        int admit(int bridge, int kind) {
            if (!tree.has(bridge)) {
                return BAD_INDEX;
            }
            if (!isWithin(kind, PHONE, ROOM)) {
                return BAD_VALUE;
            }
            if (people.joined >= MOST_PEOPLE || people.othersAt(bridge, NONE) >= MOST_AT_BRIDGE) {
                return FULL;
            }
            if (tree.refuses(bridge, kind)) {
                return WRONG_KIND;
            }
            return people.add(bridge, kind);
        }

        int dismiss(int participant) {
            if (!people.isPresent(participant)) {
                return BAD_INDEX;
            }
            floor.forget(participant);
            people.bridge[participant] = NONE;
            people.present--;
            return people.present;
        }

        int transfer(int participant, int bridge) {
            if (!people.isPresent(participant) || !tree.has(bridge)) {
                return BAD_INDEX;
            }
            if (people.othersAt(bridge, participant) >= MOST_AT_BRIDGE) {
                return FULL;
            }
            if (tree.refuses(bridge, people.kind[participant])) {
                return WRONG_KIND;
            }
            int before = people.bridge[participant];
            people.bridge[participant] = bridge;
            return before;
        }

        int changeLevel(int participant, int level) {
            if (!people.isPresent(participant)) {
                return BAD_INDEX;
            }
            if (!isWithin(level, 0, MOST_LEVEL)) {
                return BAD_VALUE;
            }
            int before = people.level[participant];
            people.level[participant] = level;
            return before;
        }

        int changeMuted(int participant, boolean muted) {
            if (!people.isPresent(participant)) {
                return BAD_INDEX;
            }
            int before = people.muted[participant];
            people.muted[participant] = muted ? 1 : 0;
            return before;
        }

        int toggleMuted(int participant) {
            return changeMuted(participant, !people.isPresent(participant) || people.muted[participant] == 0);
        }

        int askFloor(int participant, int priority) {
            if (!people.isPresent(participant)) {
                return BAD_INDEX;
            }
            if (!isWithin(priority, 0, 9)) {
                return BAD_VALUE;
            }
            if (floor.standing(participant) != Floor.NEITHER) {
                return BAD_STATE;
            }
            floor.enqueue(participant, priority);
            return floor.waiting;
        }

        int yieldFloor(int participant) {
            if (!people.isPresent(participant)) {
                return BAD_INDEX;
            }
            int before = floor.standing(participant);
            if (before == Floor.NEITHER) {
                return BAD_STATE;
            }
            floor.forget(participant);
            return before == Floor.HOLDS ? 1 : 0;
        }

        int passTicks(int many, Mixer mixer) {
            if (!isWithin(many, 1, MOST_TICKS)) {
                return BAD_VALUE;
            }
            for (int passed = 0; passed < many; passed++) {
                beginTick();
                mixer.letHear(this);
                mixer.send(this);
            }
            return people.speakers();
        }

        /** Steps 1 to 3 of a tick: all that decides who speaks. */
        void beginTick() {
            ticks++;
            people.updateLoudness(settings.threshold);
            if (settings.floorOn) {
                for (int p = 0; p < people.joined; p++) {
                    if (floor.holds[p] == 1) {
                        timeHolder(p);
                    }
                }
                grantFloor();
            }
            Selection.selectAll(this);
        }

        private void timeHolder(int participant) {
            floor.holdingTime[participant]++;
            if (people.loudness[participant] < settings.threshold) {
                floor.silentTime[participant]++;
            } else {
                floor.silentTime[participant] = 0;
            }
            if (floor.silentTime[participant] > settings.patience) {
                floor.forget(participant);
                events.add(LOST_FLOOR_SILENT, participant, ticks);
            } else if (settings.limit > 0 && floor.holdingTime[participant] >= settings.limit && floor.waiting > 0) {
                floor.forget(participant);
                events.add(LOST_FLOOR_LIMIT, participant, ticks);
            }
        }

        private void grantFloor() {
            for (int holders = floor.holders(); holders < settings.tokens && floor.waiting > 0; holders++) {
                int participant = floor.queue[0];
                floor.grant(participant);
                events.add(GOT_FLOOR, participant, ticks);
            }
        }
    }

    /** How speakers are selected, and how the floor is given. */
    private static final class Settings {
        int speakers = 2;
        float threshold = power(10);
        int hysteresis = 6;
        int hang = 3;
        boolean floorOn = false;
        int tokens = 1;
        int patience = 10;
        int limit = 0;

        void copyFrom(Settings other) {
            speakers = other.speakers;
            threshold = other.threshold;
            hysteresis = other.hysteresis;
            hang = other.hang;
            floorOn = other.floorOn;
            tokens = other.tokens;
            patience = other.patience;
            limit = other.limit;
        }

        int changeSelection(int newSpeakers, int thresholdLevel, int newHysteresis, int newHang) {
            if (!isWithin(newSpeakers, 1, MOST_SPEAKERS) || !isWithin(thresholdLevel, 1, MOST_LEVEL)
                    || !isWithin(newHysteresis, 4, 16) || !isWithin(newHang, 0, 20)) {
                return BAD_VALUE;
            }
            int before = speakers;
            speakers = newSpeakers;
            threshold = power(thresholdLevel);
            hysteresis = newHysteresis;
            hang = newHang;
            return before;
        }

        int changeFloor(boolean on, int newTokens, int newPatience, int newLimit) {
            if (!isWithin(newTokens, 1, MOST_TOKENS) || !isWithin(newPatience, 1, 50)
                    || !isWithin(newLimit, 0, 100)) {
                return BAD_VALUE;
            }
            int before = floorOn ? 1 : 0;
            floorOn = on;
            tokens = newTokens;
            patience = newPatience;
            limit = newLimit;
            return before;
        }
    }

    /** The bridges and their links. A link bears the number of its later bridge. */
    private static final class Tree {
        /** Ways: into each bridge from its parent, and into the parent from each bridge. */
        static final int WAYS = 2 * MOST_BRIDGES;

        int size = 1;
        final int[] parent = new int[MOST_BRIDGES];
        final int[] places = new int[MOST_BRIDGES];
        final int[] phonesOnly = new int[MOST_BRIDGES];

        Tree() {
            parent[0] = NONE;
        }

        void copyFrom(Tree other) {
            size = other.size;
            System.arraycopy(other.parent, 0, parent, 0, MOST_BRIDGES);
            System.arraycopy(other.places, 0, places, 0, MOST_BRIDGES);
            System.arraycopy(other.phonesOnly, 0, phonesOnly, 0, MOST_BRIDGES);
        }

        boolean has(int bridge) {
            return bridge >= 0 && bridge < size;
        }

        boolean refuses(int bridge, int kind) {
            return kind == ROOM && phonesOnly[bridge] == 1;
        }

        /** The caller has seen that there is room. */
        int add(int itsParent, int itsPlaces, boolean itsPhonesOnly) {
            int bridge = size;
            parent[bridge] = itsParent;
            places[bridge] = itsPlaces;
            phonesOnly[bridge] = itsPhonesOnly ? 1 : 0;
            size++;
            return bridge;
        }

        /** The way on which streams come into a bridge from a neighbour; NONE if it is no neighbour. */
        int wayInto(int bridge, int neighbour) {
            if (parent[bridge] == neighbour) {
                return bridge;
            }
            return parent[neighbour] == bridge ? MOST_BRIDGES + neighbour : NONE;
        }

        int placesOf(int way) {
            return places[way < MOST_BRIDGES ? way : way - MOST_BRIDGES];
        }

        int linksBetween(int one, int other) {
            int here = one;
            int there = other;
            int links = 0;
            // A parent has a lower number, so the bridge with the higher one is never above the other.
            while (here != there && links < MOST_BRIDGES) {
                if (here > there) {
                    here = parent[here];
                } else {
                    there = parent[there];
                }
                links++;
            }
            return links;
        }
    }

    /** The participants: each has the place of its number in every row. */
    private static final class People {
        int joined;
        int present;
        /** NONE for one that has left. */
        final int[] bridge = new int[MOST_PEOPLE];
        final int[] kind = new int[MOST_PEOPLE];
        final int[] level = new int[MOST_PEOPLE];
        final int[] muted = new int[MOST_PEOPLE];
        final float[] loudness = new float[MOST_PEOPLE];
        final int[] quietTime = new int[MOST_PEOPLE];
        final int[] talkTime = new int[MOST_PEOPLE];
        /** The bridge whose speaker it is, which it may have left meanwhile; else NONE. */
        final int[] speakerOf = new int[MOST_PEOPLE];
        /** One bit for each participant that is heard. */
        final int[] heard = new int[MOST_PEOPLE];
        final float[] mix = new float[MOST_PEOPLE];

        People() {
            for (int p = 0; p < MOST_PEOPLE; p++) {
                speakerOf[p] = NONE;
            }
        }

        void copyFrom(People other) {
            joined = other.joined;
            present = other.present;
            System.arraycopy(other.bridge, 0, bridge, 0, MOST_PEOPLE);
            System.arraycopy(other.kind, 0, kind, 0, MOST_PEOPLE);
            System.arraycopy(other.level, 0, level, 0, MOST_PEOPLE);
            System.arraycopy(other.muted, 0, muted, 0, MOST_PEOPLE);
            System.arraycopy(other.loudness, 0, loudness, 0, MOST_PEOPLE);
            System.arraycopy(other.quietTime, 0, quietTime, 0, MOST_PEOPLE);
            System.arraycopy(other.talkTime, 0, talkTime, 0, MOST_PEOPLE);
            System.arraycopy(other.speakerOf, 0, speakerOf, 0, MOST_PEOPLE);
            System.arraycopy(other.heard, 0, heard, 0, MOST_PEOPLE);
            System.arraycopy(other.mix, 0, mix, 0, MOST_PEOPLE);
        }

        boolean isPresent(int participant) {
            return participant >= 0 && participant < joined && bridge[participant] != NONE;
        }

        int othersAt(int place, int participant) {
            int others = 0;
            for (int p = 0; p < joined; p++) {
                if (bridge[p] == place && p != participant) {
                    others++;
                }
            }
            return others;
        }

        int speakers() {
            int speakers = 0;
            for (int p = 0; p < joined; p++) {
                if (speakerOf[p] != NONE) {
                    speakers++;
                }
            }
            return speakers;
        }

        /**
         * The caller has seen that there is room. A number is used once, and undo() brings back whole
         * rows: so the others are still as the constructor made them, which is as they are at first.
         */
        int add(int itsBridge, int itsKind) {
            int participant = joined;
            bridge[participant] = itsBridge;
            kind[participant] = itsKind;
            joined++;
            present++;
            return participant;
        }

        void updateLoudness(float threshold) {
            for (int p = 0; p < joined; p++) {
                if (bridge[p] != NONE) {
                    float goal = powerOf(p);
                    float part = goal > loudness[p] ? 0.5f : 0.125f;
                    loudness[p] = loudness[p] + (goal - loudness[p]) * part;
                    quietTime[p] = loudness[p] < threshold ? quietTime[p] + 1 : 0;
                }
            }
        }

        private float powerOf(int participant) {
            return muted[participant] == 1 || level[participant] == 0 ? 0.0f : power(level[participant]);
        }
    }

    /** Who holds the floor, and who has requested it. */
    private static final class Floor {
        static final int NEITHER = 0;
        static final int REQUESTS = 1;
        static final int HOLDS = 2;

        int waiting;
        /** The participants with requests, in the order in which these are granted. */
        final int[] queue = new int[MOST_PEOPLE];
        /** The priorities of the requests, by participant. */
        final int[] priority = new int[MOST_PEOPLE];
        final int[] holds = new int[MOST_PEOPLE];
        final int[] holdingTime = new int[MOST_PEOPLE];
        final int[] silentTime = new int[MOST_PEOPLE];

        void copyFrom(Floor other) {
            waiting = other.waiting;
            System.arraycopy(other.queue, 0, queue, 0, MOST_PEOPLE);
            System.arraycopy(other.priority, 0, priority, 0, MOST_PEOPLE);
            System.arraycopy(other.holds, 0, holds, 0, MOST_PEOPLE);
            System.arraycopy(other.holdingTime, 0, holdingTime, 0, MOST_PEOPLE);
            System.arraycopy(other.silentTime, 0, silentTime, 0, MOST_PEOPLE);
        }

        int standing(int participant) {
            if (holds[participant] == 1) {
                return HOLDS;
            }
            return placeInQueue(participant) == NONE ? NEITHER : REQUESTS;
        }

        int holders() {
            int holders = 0;
            for (int p = 0; p < MOST_PEOPLE; p++) {
                holders += holds[p];
            }
            return holders;
        }

        /** Behind all requests of the same priority, for the earliest of these is granted first. */
        void enqueue(int participant, int itsPriority) {
            if (waiting >= MOST_PEOPLE) {
                return;
            }
            int place = waiting;
            while (place > 0 && priority[queue[place - 1]] < itsPriority) {
                queue[place] = queue[place - 1];
                place--;
            }
            queue[place] = participant;
            priority[participant] = itsPriority;
            waiting++;
        }

        void grant(int participant) {
            forget(participant);
            holds[participant] = 1;
            holdingTime[participant] = 0;
            silentTime[participant] = 0;
        }

        /** Takes the floor or the request from a participant, if it has one. */
        void forget(int participant) {
            holds[participant] = 0;
            int place = placeInQueue(participant);
            if (place == NONE) {
                return;
            }
            for (int next = place + 1; next < waiting; next++) {
                queue[next - 1] = queue[next];
            }
            waiting--;
        }

        private int placeInQueue(int participant) {
            for (int place = 0; place < waiting; place++) {
                if (queue[place] == participant) {
                    return place;
                }
            }
            return NONE;
        }
    }

    /** The streams on each way of the tree, in the order in which they were sent. */
    private static final class Streams {
        final int[] size = new int[Tree.WAYS];
        /** Each way has MOST_PLACES places in these rows. */
        final int[] speaker = new int[Tree.WAYS * MOST_PLACES];
        final int[] age = new int[Tree.WAYS * MOST_PLACES];
        final float[] loudness = new float[Tree.WAYS * MOST_PLACES];

        void copyFrom(Streams other) {
            System.arraycopy(other.size, 0, size, 0, Tree.WAYS);
            System.arraycopy(other.speaker, 0, speaker, 0, Tree.WAYS * MOST_PLACES);
            System.arraycopy(other.age, 0, age, 0, Tree.WAYS * MOST_PLACES);
            System.arraycopy(other.loudness, 0, loudness, 0, Tree.WAYS * MOST_PLACES);
        }

        void clear() {
            for (int way = 0; way < Tree.WAYS; way++) {
                size[way] = 0;
            }
        }

        void add(int way, int itsSpeaker, int itsAge, float itsLoudness) {
            if (size[way] >= MOST_PLACES) {
                return;
            }
            int place = way * MOST_PLACES + size[way];
            speaker[place] = itsSpeaker;
            age[place] = itsAge;
            loudness[place] = itsLoudness;
            size[way]++;
        }
    }

    /** The latest events, in a ring. */
    private static final class EventLog {
        static final int MOST = 30;

        int kept;
        /** Where the next event is put. */
        int next;
        final int[] kind = new int[MOST];
        final int[] participant = new int[MOST];
        final int[] tick = new int[MOST];

        void copyFrom(EventLog other) {
            kept = other.kept;
            next = other.next;
            System.arraycopy(other.kind, 0, kind, 0, MOST);
            System.arraycopy(other.participant, 0, participant, 0, MOST);
            System.arraycopy(other.tick, 0, tick, 0, MOST);
        }

        void add(int itsKind, int itsParticipant, int itsTick) {
            kind[next] = itsKind;
            participant[next] = itsParticipant;
            tick[next] = itsTick;
            next = next + 1 < MOST ? next + 1 : 0;
            kept = kept < MOST ? kept + 1 : MOST;
        }

        /** The place of an event that is kept, 0 being the latest one. */
        int placeOf(int event) {
            return (next + MOST - 1 - event) % MOST;
        }
    }

    /** Step 3 of a tick: each bridge selects its speakers. */
    private static final class Selection {
        private Selection() {
        }

        static void selectAll(Conference c) {
            for (int bridge = 0; bridge < c.tree.size; bridge++) {
                dropUnfit(c, bridge);
                dropSurplus(c, bridge);
                fillPlaces(c, bridge);
                replaceOne(c, bridge);
                countTalk(c, bridge);
            }
        }

        private static void dropUnfit(Conference c, int bridge) {
            for (int p = 0; p < c.people.joined; p++) {
                boolean unfit = !maySpeak(c, bridge, p) || c.people.quietTime[p] > c.settings.hang;
                if (c.people.speakerOf[p] == bridge && unfit) {
                    drop(c, p);
                }
            }
        }

        private static void dropSurplus(Conference c, int bridge) {
            for (int many = speakersOf(c, bridge); many > c.settings.speakers; many--) {
                int quietest = quietestSpeaker(c, bridge);
                if (quietest == NONE) {
                    return;
                }
                drop(c, quietest);
            }
        }

        private static void fillPlaces(Conference c, int bridge) {
            for (int many = speakersOf(c, bridge); many < c.settings.speakers; many++) {
                int loudest = loudestCandidate(c, bridge);
                if (loudest == NONE) {
                    return;
                }
                choose(c, bridge, loudest);
            }
        }

        private static void replaceOne(Conference c, int bridge) {
            int loudest = loudestCandidate(c, bridge);
            int quietest = quietestSpeaker(c, bridge);
            if (loudest == NONE || quietest == NONE) {
                return;
            }
            float needed = c.people.loudness[quietest] * (float) c.settings.hysteresis / 4.0f;
            if (c.people.loudness[loudest] > needed) {
                drop(c, quietest);
                choose(c, bridge, loudest);
            }
        }

        private static void countTalk(Conference c, int bridge) {
            for (int p = 0; p < c.people.joined; p++) {
                if (c.people.speakerOf[p] == bridge) {
                    c.people.talkTime[p]++;
                }
            }
        }

        private static boolean maySpeak(Conference c, int bridge, int p) {
            return c.people.bridge[p] == bridge && c.people.muted[p] == 0
                    && (!c.settings.floorOn || c.floor.holds[p] == 1);
        }

        private static int speakersOf(Conference c, int bridge) {
            int many = 0;
            for (int p = 0; p < c.people.joined; p++) {
                if (c.people.speakerOf[p] == bridge) {
                    many++;
                }
            }
            return many;
        }

        /** Of several the one with the greatest number. */
        private static int quietestSpeaker(Conference c, int bridge) {
            float[] loudness = c.people.loudness;
            int found = NONE;
            for (int p = 0; p < c.people.joined; p++) {
                if (c.people.speakerOf[p] == bridge && (found == NONE || loudness[p] <= loudness[found])) {
                    found = p;
                }
            }
            return found;
        }

        /** Of several the one with the lowest number. */
        private static int loudestCandidate(Conference c, int bridge) {
            float[] loudness = c.people.loudness;
            int found = NONE;
            for (int p = 0; p < c.people.joined; p++) {
                boolean candidate = c.people.speakerOf[p] == NONE && loudness[p] >= c.settings.threshold
                        && maySpeak(c, bridge, p);
                if (candidate && (found == NONE || loudness[p] > loudness[found])) {
                    found = p;
                }
            }
            return found;
        }

        private static void drop(Conference c, int p) {
            c.people.speakerOf[p] = NONE;
            c.events.add(NO_SPEAKER_ANY_MORE, p, c.ticks);
        }

        private static void choose(Conference c, int bridge, int p) {
            c.people.speakerOf[p] = bridge;
            c.events.add(BECAME_SPEAKER, p, c.ticks);
        }
    }

    /** Steps 4 and 5 of a tick: everybody hears, and streams are sent. */
    private static final class Mixer {
        /** The streams that count at the bridge in hand, by speaker; the age is NONE where there is none. */
        private final int[] age = new int[MOST_PEOPLE];
        private final float[] loudness = new float[MOST_PEOPLE];
        /** Apart from those that have arrived, which are read until all links are done. */
        private final Streams sent = new Streams();

        void letHear(Conference c) {
            for (int bridge = 0; bridge < c.tree.size; bridge++) {
                gather(c, bridge, NONE);
                for (int p = 0; p < c.people.joined; p++) {
                    if (c.people.bridge[p] == bridge) {
                        hear(c.people, p);
                    }
                }
            }
        }

        void send(Conference c) {
            // On all ways: undo() may have taken away a bridge to which an earlier tick has sent.
            sent.clear();
            for (int bridge = 0; bridge < c.tree.size; bridge++) {
                for (int neighbour = 0; neighbour < c.tree.size; neighbour++) {
                    int way = c.tree.wayInto(neighbour, bridge);
                    if (way != NONE) {
                        gather(c, bridge, neighbour);
                        sendLoudest(way, c.tree.placesOf(way), c.people.joined);
                    }
                }
            }
            c.arrived.copyFrom(sent);
        }

        /** Finds the streams at a bridge that count, but for those that came from one neighbour. */
        private void gather(Conference c, int bridge, int except) {
            for (int p = 0; p < c.people.joined; p++) {
                age[p] = c.people.speakerOf[p] == bridge ? 0 : NONE;
                loudness[p] = c.people.loudness[p];
            }
            for (int neighbour = 0; neighbour < c.tree.size; neighbour++) {
                int way = c.tree.wayInto(bridge, neighbour);
                if (way != NONE && neighbour != except) {
                    gatherWay(c.arrived, way);
                }
            }
        }

        private void gatherWay(Streams arrived, int way) {
            for (int index = 0; index < arrived.size[way]; index++) {
                int place = way * MOST_PLACES + index;
                int speaker = arrived.speaker[place];
                // Ways are taken by ascending neighbours, so of equal ages the first one stays.
                if (age[speaker] == NONE || arrived.age[place] < age[speaker]) {
                    age[speaker] = arrived.age[place];
                    loudness[speaker] = arrived.loudness[place];
                }
            }
        }

        private void hear(People people, int listener) {
            float sum = 0.0f;
            int heard = 0;
            for (int p = 0; p < people.joined; p++) {
                if (age[p] != NONE && p != listener) {
                    sum = sum + loudness[p];
                    heard = heard | (1 << p);
                }
            }
            people.mix[listener] = sum;
            people.heard[listener] = heard;
        }

        private void sendLoudest(int way, int places, int joined) {
            for (int place = 0; place < places; place++) {
                int loudest = NONE;
                for (int p = 0; p < joined; p++) {
                    if (age[p] != NONE && (loudest == NONE || loudness[p] > loudness[loudest])) {
                        loudest = p;
                    }
                }
                if (loudest == NONE) {
                    return;
                }
                sent.add(way, loudest, age[loudest] + 1, loudness[loudest]);
                age[loudest] = NONE;
            }
        }
    }

    /** The latest states, in a ring. */
    private static final class History {
        static final int MOST = 5;
        /** One place more than states are kept, for the draft. */
        static final int PLACES = MOST + 1;

        private final Conference[] states = new Conference[PLACES];
        private int kept;
        /** Where the draft is put. */
        private int next;

        History() {
            for (int place = 0; place < PLACES; place++) {
                states[place] = new Conference();
            }
        }

        /** Takes down the state before a call, of which nobody knows yet whether it returns an error. */
        void draft(Conference now) {
            states[next].copyFrom(now);
        }

        /** Keeps the draft unless the call's answer is an error. */
        int settle(int answer) {
            if (answer >= 0) {
                next = (next + 1) % PLACES;
                kept = kept < MOST ? kept + 1 : MOST;
            }
            return answer;
        }

        int restore(Conference now) {
            if (kept == 0) {
                return BAD_STATE;
            }
            next = (next + PLACES - 1) % PLACES;
            now.copyFrom(states[next]);
            kept--;
            return kept;
        }
    }

    /** The text, and the orders that scan() has found in it. */
    private static final class OrderText {
        static final int MOST_BYTES = 100;

        private final int[] bytes = new int[MOST_BYTES];
        private int length;
        /** Where scan() reads. */
        private int at;
        private int fault;

        int orders;
        final int[] letter = new int[MOST_BYTES];
        final int[] first = new int[MOST_BYTES];
        final int[] second = new int[MOST_BYTES];

        int append(int code) {
            if (!isWithin(code, 0, 255)) {
                return BAD_VALUE;
            }
            if (length >= MOST_BYTES) {
                return FULL;
            }
            bytes[length] = code;
            length++;
            return length;
        }

        int empty() {
            int before = length;
            length = 0;
            return before;
        }

        /** Finds the orders; returns the fault of the text, or NONE. */
        int scan() {
            at = 0;
            fault = NONE;
            orders = 0;
            boolean more = true;
            for (int order = 0; order < MOST_BYTES && more; order++) {
                readOrder(order);
                more = fault == NONE && readSemicolon();
            }
            return fault;
        }

        private void readOrder(int order) {
            skipBlanks();
            int numbers = at < length ? numbersAfter(bytes[at]) : 0;
            if (numbers == 0) {
                fault = at;
                return;
            }
            letter[order] = bytes[at];
            at++;
            first[order] = readNumber();
            second[order] = numbers == 2 && fault == NONE ? readNumber() : NONE;
            orders = order + 1;
        }

        /** Whether one more order must follow. */
        private boolean readSemicolon() {
            skipBlanks();
            if (at == length) {
                return false;
            }
            if (bytes[at] != ';') {
                fault = at;
                return false;
            }
            at++;
            return true;
        }

        private int readNumber() {
            skipBlanks();
            int start = at;
            int value = 0;
            while (at < length && isWithin(bytes[at], '0', '9')) {
                // Of a longer sequence only the length matters, and that it does not overflow.
                value = value % 10 * 10 + bytes[at] - '0';
                at++;
            }
            if (!isWithin(at - start, 1, 2)) {
                fault = start;
            }
            return value;
        }

        private void skipBlanks() {
            while (at < length && bytes[at] == ' ') {
                at++;
            }
        }

        private static int numbersAfter(int code) {
            switch (code) {
                case 'L':
                case 'M':
                case 'R':
                    return 2;
                case 'T':
                case 'F':
                case 'U':
                    return 1;
                default:
                    return 0;
            }
        }
    }
}
