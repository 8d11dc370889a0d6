/** Duty on shortcuts: what a kingdom's walkers owe for ways that are shorter than the road. */
public final class ShortcutDuty {
    public static final int NONE = -1;

    private static final int NO_SUCH = -2;
    private static final int BELOW_ZERO = -3;
    private static final int FAULTY = -4;
    private static final int NOTHING_THERE = -6;
    private static final int BEYOND = -7;
    private static final int OTHER_WIDTH = -8;
    private static final int NO_DIFFERENCE = -2000000;

    private static final int MAX_PLACES = 7;
    private static final int PAIRS = MAX_PLACES * MAX_PLACES;
    private static final int MAX_ROADS = 12;
    private static final int MAX_LANES = 8;
    private static final int MAX_WALKS = 10;
    private static final int MAX_STEPS = 6;
    private static final int MAX_WALKER = 4;
    private static final int MAX_LOAD = 9;
    private static final int MAX_LAW = 99;
    private static final int MAX_THOUGHT = 99;
    private static final int MAX_SEED = 2000000000;
    private static final int MAX_TRIES = 20;
    private static final int MAX_GOAL = 999999;
    private static final int IMAGES = 3;

    /** What joins two places is told as a road's number, or as this and a lane's. */
    private static final int LANE_BASE = 20;

    private static final int SUM_DUTY = 0;
    private static final int SUM_COST = 1;
    private static final int SUM_LENGTH = 2;
    private static final int SUM_WAYLESS = 3;

    private final Tape tape;
    private final Reader reader;
    private final Realm realm;
    /** A kingdom that is being read or is only thought of, so that the real one stays. */
    private final Realm draft;
    private final Realm[] images;
    private final boolean[] kept;
    private final Ways search;
    private final Trip trip;
    private final Slots slots;
    /** The lanes of walks that owe duty, as bits, and how many such walks there are. */
    private final int[] owingLanes;
    private int owing;

    public ShortcutDuty() {
        tape = new Tape();
        reader = new Reader();
        realm = new Realm();
        draft = new Realm();
        images = new Realm[IMAGES];
        for (int i = 0; i < IMAGES; i++) {
            images[i] = new Realm();
        }
        kept = new boolean[IMAGES];
        search = new Ways();
        trip = new Trip();
        slots = new Slots();
        owingLanes = new int[MAX_WALKS];
    }

    public int feed(int a, int b, int c, int d, int e) {
        if (!tape.hasRoom()) {
            return NONE;
        }
        tape.append(a);
        tape.append(b);
        tape.append(c);
        tape.append(d);
        tape.append(e);
        return tape.size;
    }

    public int end(int n) {
        if (n < 0 || n > tape.size) {
            return NONE;
        }
        tape.size = n;
        return n;
    }

    public int kingdom() {
        reader.begin(tape, draft);
        for (int i = 0; i < Tape.LIMIT && reader.hasLine(); i++) {
            reader.readLine();
        }
        // A faulty text would stand in the way of the next one: only the kingdom stays.
        tape.size = 0;
        if (reader.fault != 0) {
            return FAULTY;
        }
        draft.reckonRoads();
        realm.become(draft);
        return realm.lines;
    }

    public int fault(int what) {
        switch (what) {
            case 0:
                return reader.fault;
            case 1:
                return reader.place;
            default:
                return NONE;
        }
    }

    public int road(int from, int to) {
        return arePlaces(from, to) ? realm.byRoad(from, to) : NO_SUCH;
    }

    public int way(int from, int to, int i) {
        return arePlaces(from, to) ? realm.placeByRoad(from, to, i) : NO_SUCH;
    }

    public int open(int lane, int day) {
        if (!realm.hasLane(lane) || !realm.hasDay(day)) {
            return NO_SUCH;
        }
        return realm.isOpen(realm.lanes[lane], day) ? 1 : 0;
    }

    public int joins(int a, int b, int day) {
        if (!isJourney(a, b, day)) {
            return NO_SUCH;
        }
        Link link = realm.linkOf(a, b, day);
        if (link == null) {
            return NONE;
        }
        return link.kind == Link.ROAD ? link.number : LANE_BASE + link.number;
    }

    public int walk(int walk, int what) {
        if (!realm.hasWalk(walk)) {
            return NO_SUCH;
        }
        Walk told = realm.walks[walk];
        switch (what) {
            case 0:
                return told.walker;
            case 1:
                return told.load;
            case 2:
                return told.day;
            case 3:
                return told.first();
            case 4:
                return told.last();
            case 5:
                return told.stepCount;
            default:
                return NO_SUCH;
        }
    }

    public int unlawful() {
        if (!realm.exists()) {
            return NO_SUCH;
        }
        for (int walk = 0; walk < realm.walkCount; walk++) {
            if (!isLawful(realm, walk)) {
                return walk;
            }
        }
        return NONE;
    }

    public int steps(int walk) {
        if (!realm.hasWalk(walk)) {
            return NO_SUCH;
        }
        trip.follow(realm, walk);
        return trip.lawfulSteps;
    }

    public int length(int walk) {
        int refusal = refusalOf(walk);
        return refusal == 0 ? trip.total : refusal;
    }

    public int saved(int walk) {
        int refusal = refusalOf(walk);
        return refusal == 0 ? trip.spared : refusal;
    }

    public int duty(int walk) {
        int refusal = refusalOf(walk);
        return refusal == 0 ? trip.owed : refusal;
    }

    public int lanes(int walk) {
        int refusal = refusalOf(walk);
        return refusal == 0 ? trip.laneBits : refusal;
    }

    public int owes(int walker) {
        if (!realm.exists() || walker < 0 || walker > MAX_WALKER) {
            return NO_SUCH;
        }
        return dutySum(realm, walker, NONE);
    }

    public int takings(int day) {
        if (!realm.exists() || (day != NONE && !realm.hasDay(day))) {
            return NO_SUCH;
        }
        return dutySum(realm, NONE, day);
    }

    public long chance(int walk, int what) {
        int refusal = refusalOf(walk);
        if (refusal == NO_SUCH || what < 0 || what > 1) {
            return NO_SUCH;
        }
        return refusal == 0 ? trip.fraction(1, what) : refusal;
    }

    public long hope(int walk, int what) {
        int refusal = refusalOf(walk);
        if (refusal == NO_SUCH || what < 0 || what > 1) {
            return NO_SUCH;
        }
        return refusal == 0 ? trip.fraction(trip.owed, what) : refusal;
    }

    public int shortest(int from, int to, int day) {
        if (!isJourney(from, to, day)) {
            return NO_SUCH;
        }
        search.find(realm, from, to, day, 1);
        return search.leastLength(0);
    }

    public int hidden(int from, int to, int day) {
        if (!isJourney(from, to, day)) {
            return NO_SUCH;
        }
        search.find(realm, from, to, day, 1);
        return search.leastLength(realm.watchedLanes());
    }

    public int best(int from, int to, int day, int load, int what) {
        if (!isJourney(from, to, day) || !isLoad(load) || what < 0 || what > 3) {
            return NO_SUCH;
        }
        search.find(realm, from, to, day, load);
        int index = search.bestIndex();
        if (index == NONE) {
            return NONE;
        }
        switch (what) {
            case 0:
                return search.costOf(index);
            case 1:
                return search.lengths[index];
            case 2:
                return search.dutyOf(index, 0);
            default:
                return search.sizes[index];
        }
    }

    public int goes(int from, int to, int day, int load, int i) {
        if (!isJourney(from, to, day) || !isLoad(load)) {
            return NO_SUCH;
        }
        search.find(realm, from, to, day, load);
        return search.placeOf(search.bestIndex(), i);
    }

    public int ways(int from, int to, int day) {
        if (!isJourney(from, to, day)) {
            return NO_SUCH;
        }
        search.find(realm, from, to, day, 1);
        return search.found;
    }

    public int all(int what) {
        return realm.exists() && isSum(what) ? bestSum(realm, what) : NO_SUCH;
    }

    public int lane(int a, int b, int n, int what) {
        if (!arePlaces(a, b) || a == b || !isThought(n) || !isSum(what)) {
            return NO_DIFFERENCE;
        }
        draft.become(realm);
        draft.addLane();
        draft.placeLastLane(a, b, n);
        return bestSum(draft, what) - bestSum(realm, what);
    }

    public int help(int n) {
        if (!realm.exists() || !isThought(n)) {
            return NO_SUCH;
        }
        draft.become(realm);
        draft.addLane();
        int least = bestSum(realm, SUM_COST);
        int pair = NONE;
        for (int a = 0; a < realm.places; a++) {
            for (int b = a + 1; b < realm.places; b++) {
                draft.placeLastLane(a, b, n);
                int costs = bestSum(draft, SUM_COST);
                if (costs < least) {
                    least = costs;
                    pair = 10 * a + b;
                }
            }
        }
        return pair;
    }

    public int bend(int road, int n, int what) {
        if (!realm.hasRoad(road) || !isThought(n) || !isSum(what)) {
            return NO_DIFFERENCE;
        }
        bendDraft(road, n);
        return bestSum(draft, what) - bestSum(realm, what);
    }

    public int duke(int n) {
        if (!realm.exists() || !isThought(n)) {
            return NO_SUCH;
        }
        int most = bestSum(realm, SUM_DUTY);
        int bent = NONE;
        for (int road = 0; road < realm.roadCount; road++) {
            bendDraft(road, n);
            int duties = bestSum(draft, SUM_DUTY);
            if (duties > most) {
                most = duties;
                bent = road;
            }
        }
        return bent;
    }

    public int watchers(int what) {
        if (!realm.exists() || what < 0 || what > 1) {
            return NO_SUCH;
        }
        noteOwing();
        if (owing == 0) {
            return NONE;
        }
        int fewest = (1 << realm.laneCount) - 1;
        // The sets come from the least on, so of equally many the first is kept.
        for (int set = 1; set < (1 << realm.laneCount); set++) {
            if (Integer.bitCount(set) < Integer.bitCount(fewest) && meetsAllOwing(set)) {
                fewest = set;
            }
        }
        return what == 0 ? Integer.bitCount(fewest) : fewest;
    }

    public int by(int rate, int free) {
        if (!realm.exists() || !isWithin(rate, 0, MAX_LAW) || !isWithin(free, 0, MAX_LAW)) {
            return NO_SUCH;
        }
        draftLaw(rate, free);
        return dutySum(draft, NONE, NONE);
    }

    public int rate(int n) {
        if (!realm.exists() || !isWithin(n, 1, MAX_GOAL)) {
            return NO_SUCH;
        }
        draftLaw(1, realm.law.free);
        int single = dutySum(draft, NONE, NONE);
        for (int tried = 0; tried <= MAX_LAW; tried++) {
            if (tried * single >= n) {
                return tried;
            }
        }
        return NONE;
    }

    public int law(int what, int n) {
        if (!realm.exists() || !isWithin(what, 0, 4) || !isWithin(n, 0, what > 2 ? 1 : MAX_LAW)) {
            return NO_SUCH;
        }
        return realm.law.exchange(what, n);
    }

    public int paid(int walk, int duty) {
        if (!realm.hasWalk(walk) || duty < 0) {
            return NO_SUCH;
        }
        findForWalk(realm, walk);
        return search.countOwing(duty);
    }

    public int sure(int walk, int duty) {
        if (!realm.hasWalk(walk) || duty < 0) {
            return NO_SUCH;
        }
        findForWalk(realm, walk);
        return search.commonLanes(duty);
    }

    public int ford(int slot) {
        if (!realm.exists() || !slots.has(slot)) {
            return NO_SUCH;
        }
        if (slots.isBare(slot)) {
            return NOTHING_THERE;
        }
        if (slots.sizes[slot] != realm.walkCount) {
            return BEYOND;
        }
        for (int walk = 0; walk < realm.walkCount; walk++) {
            findForWalk(realm, walk);
            if (search.countOwing(slots.valueAt(slot, walk)) == 0) {
                return walk;
            }
        }
        return NONE;
    }

    public int must(int a, int b, int walk, int duty) {
        if (!arePlaces(a, b) || a == b || !realm.hasWalk(walk) || duty < 0) {
            return NO_SUCH;
        }
        draft.become(realm);
        draft.addLane();
        draft.placeLastLane(a, b, 1);
        findForWalk(draft, walk);
        // Each length that is shorter than what joins them now opens the same ways.
        int laneBit = 1 << realm.laneCount;
        Link joined = realm.linkOf(a, b, realm.walks[walk].day);
        int longest = joined == null ? MAX_THOUGHT : Math.min(MAX_THOUGHT, joined.span - 1);
        for (int n = 1; n <= longest; n++) {
            if (search.canOweOver(laneBit, n - 1, duty)) {
                return n;
            }
        }
        return NONE;
    }

    public int seen(int seed, int walk) {
        int refusal = refusalOf(walk);
        if (refusal == NO_SUCH || !isWithin(seed, 0, MAX_SEED)) {
            return NO_SUCH;
        }
        if (refusal != 0) {
            return refusal;
        }
        return trip.isSeenFrom(seed) ? 1 : 0;
    }

    public int caught(int seed, int n) {
        if (!realm.exists() || !isWithin(seed, 0, MAX_SEED) || !isWithin(n, 1, MAX_TRIES)) {
            return NO_SUCH;
        }
        int sum = 0;
        for (int walk = 0; walk < realm.walkCount; walk++) {
            if (isLawful(realm, walk)) {
                for (int i = 0; i < n; i++) {
                    sum += trip.isSeenFrom(seed + i) ? trip.owed : 0;
                }
            }
        }
        return sum;
    }

    public int count(int what) {
        switch (what) {
            case 0:
                return realm.places;
            case 1:
                return realm.days;
            case 2:
                return realm.roadCount;
            case 3:
                return realm.laneCount;
            case 4:
                return realm.walkCount;
            case 5:
                return Integer.bitCount(realm.floods);
            case 6:
                return realm.lines;
            case 7:
                return tape.size;
            case 8:
                return slots.filled();
            default:
                return NONE;
        }
    }

    public int keep(int k) {
        if (!isWithin(k, 0, IMAGES - 1)) {
            return NO_SUCH;
        }
        images[k].become(realm);
        kept[k] = true;
        return 0;
    }

    public int back(int k) {
        if (!isWithin(k, 0, IMAGES - 1)) {
            return NO_SUCH;
        }
        if (!kept[k]) {
            return NOTHING_THERE;
        }
        realm.become(images[k]);
        return 0;
    }

    public int row(int slot, int width, int n) {
        if (!slots.has(slot) || !isWithin(width, 0, Slots.WIDEST) || n > Slots.LONGEST) {
            return NO_SUCH;
        }
        if (n < 0) {
            return BELOW_ZERO;
        }
        slots.begin(slot, width, n);
        return 0;
    }

    public int write(int slot, int i, long v) {
        if (!slots.has(slot)) {
            return NO_SUCH;
        }
        if (slots.isBare(slot)) {
            return NOTHING_THERE;
        }
        if (i < 0 || i >= slots.sizes[slot]) {
            return BEYOND;
        }
        slots.put(slot, i, v);
        return 0;
    }

    public int paste(int slot, int i, int to, int k, int n) {
        if (!slots.has(slot) || !slots.has(to)) {
            return NO_SUCH;
        }
        if (slots.isBare(slot) || slots.isBare(to)) {
            return NOTHING_THERE;
        }
        if (slots.widths[slot] != slots.widths[to]) {
            return OTHER_WIDTH;
        }
        if (!slots.covers(slot, i, n) || !slots.covers(to, k, n)) {
            return BEYOND;
        }
        slots.transfer(slot, i, to, k, n);
        return 0;
    }

    private static boolean isWithin(int n, int least, int most) {
        return n >= least && n <= most;
    }

    private static int pairOf(int a, int b) {
        return a * MAX_PLACES + b;
    }

    private static boolean isThought(int n) {
        return isWithin(n, 1, MAX_THOUGHT);
    }

    private static boolean isLoad(int n) {
        return isWithin(n, 1, MAX_LOAD);
    }

    private static boolean isSum(int what) {
        return isWithin(what, SUM_DUTY, SUM_WAYLESS);
    }

    private boolean arePlaces(int a, int b) {
        return realm.hasPlace(a) && realm.hasPlace(b);
    }

    private boolean isJourney(int from, int to, int day) {
        return arePlaces(from, to) && from != to && realm.hasDay(day);
    }

    private boolean isLawful(Realm of, int walk) {
        trip.follow(of, walk);
        return trip.lawful;
    }

    /** Follows a walk: why it has no answer (no such walk, not lawful), 0 if it has one. */
    private int refusalOf(int walk) {
        if (!realm.hasWalk(walk)) {
            return NO_SUCH;
        }
        return isLawful(realm, walk) ? 0 : NONE;
    }

    /** Duties of lawful walks; NONE stands for any walker, any day. */
    private int dutySum(Realm of, int walker, int day) {
        int sum = 0;
        for (int walk = 0; walk < of.walkCount; walk++) {
            Walk told = of.walks[walk];
            boolean counts = (walker == NONE || told.walker == walker) && (day == NONE || told.day == day);
            if (counts && isLawful(of, walk)) {
                sum += trip.owed;
            }
        }
        return sum;
    }

    private void draftLaw(int rate, int free) {
        draft.become(realm);
        draft.law.rate = rate;
        draft.law.free = free;
    }

    private void findForWalk(Realm of, int walk) {
        Walk told = of.walks[walk];
        search.find(of, told.first(), told.last(), told.day, told.load);
    }

    private int bestSum(Realm of, int what) {
        int sum = 0;
        for (int walk = 0; walk < of.walkCount; walk++) {
            findForWalk(of, walk);
            sum += bestShare(search.bestIndex(), what);
        }
        return sum;
    }

    private int bestShare(int index, int what) {
        if (index == NONE) {
            return what == SUM_WAYLESS ? 1 : 0;
        }
        switch (what) {
            case SUM_DUTY:
                return search.dutyOf(index, 0);
            case SUM_COST:
                return search.costOf(index);
            case SUM_LENGTH:
                return search.lengths[index];
            default:
                return 0;
        }
    }

    private void bendDraft(int road, int n) {
        draft.become(realm);
        draft.roads[road].span += n;
        draft.reckonRoads();
    }

    /** Notes the lanes of each lawful walk that owes duty: it has one, or it would not be shorter than the road. */
    private void noteOwing() {
        owing = 0;
        for (int walk = 0; walk < realm.walkCount; walk++) {
            if (isLawful(realm, walk) && trip.owed > 0 && owing < MAX_WALKS) {
                owingLanes[owing] = trip.laneBits;
                owing++;
            }
        }
    }

    private boolean meetsAllOwing(int set) {
        for (int i = 0; i < owing; i++) {
            if ((owingLanes[i] & set) == 0) {
                return false;
            }
        }
        return true;
    }

    /** The bytes that were fed and not yet read as a kingdom. */
    private static final class Tape {
        private static final int LIMIT = 2000;
        private static final int PORTION = 20;

        private final byte[] bytes;
        private int size;

        Tape() {
            bytes = new byte[LIMIT];
        }

        boolean hasRoom() {
            return size + PORTION <= LIMIT;
        }

        void append(int four) {
            for (int shift = 24; shift >= 0; shift -= 8) {
                if (size < LIMIT) {
                    bytes[size] = (byte) (four >> shift);
                    size++;
                }
            }
        }
    }

    /** By what duty and cost are reckoned. */
    private static final class Law {
        private int rate;
        private int free;
        private int time;
        private int sundaysDue;
        private int loadsCount;

        void begin() {
            rate = 0;
            free = 0;
            time = 0;
            sundaysDue = 1;
            loadsCount = 0;
        }

        void become(Law other) {
            rate = other.rate;
            free = other.free;
            time = other.time;
            sundaysDue = other.sundaysDue;
            loadsCount = other.loadsCount;
        }

        int exchange(int what, int n) {
            int was = 0;
            switch (what) {
                case 0:
                    was = rate;
                    rate = n;
                    break;
                case 1:
                    was = free;
                    free = n;
                    break;
                case 2:
                    was = time;
                    time = n;
                    break;
                case 3:
                    was = sundaysDue;
                    sundaysDue = n;
                    break;
                default:
                    was = loadsCount;
                    loadsCount = n;
                    break;
            }
            return was;
        }

        /** What is due without a boat. */
        int dutyOn(int spared, int load, int day) {
            boolean isSunday = day % 7 == 6;
            if (spared <= free || (isSunday && sundaysDue == 0)) {
                return 0;
            }
            return (spared - free) * rate * (loadsCount == 1 ? load : 1);
        }
    }

    /** A road, or a lane: then a lane proper, a ford or a boat. */
    private static final class Link {
        private static final int ROAD = 0;
        private static final int LANE = 1;
        private static final int FORD = 2;
        private static final int BOAT = 3;

        private final int number;
        private int kind;
        /** The two places that it joins, as bits. */
        private int ends;
        private int span;
        private int firstDay;
        private int lastDay;
        private int watched;

        Link(int itsNumber) {
            number = itsNumber;
        }

        void begin(int itsKind) {
            kind = itsKind;
            ends = 0;
            span = 0;
            firstDay = 0;
            lastDay = 0;
            watched = 0;
        }

        void become(Link other) {
            kind = other.kind;
            ends = other.ends;
            span = other.span;
            firstDay = other.firstDay;
            lastDay = other.lastDay;
            watched = other.watched;
        }

        /** A lane's bit; a road has none. */
        int laneBit() {
            return kind == ROAD ? 0 : 1 << number;
        }
    }

    /** A walk as it was told. */
    private static final class Walk {
        private int walker;
        private int load;
        private int day;
        private int stepCount;
        private final int[] stops;

        Walk() {
            stops = new int[MAX_STEPS + 1];
        }

        void become(Walk other) {
            walker = other.walker;
            load = other.load;
            day = other.day;
            stepCount = other.stepCount;
            System.arraycopy(other.stops, 0, stops, 0, MAX_STEPS + 1);
        }

        int stopAt(int i) {
            return i >= 0 && i <= MAX_STEPS ? stops[i] : 0;
        }

        int first() {
            return stopAt(0);
        }

        int last() {
            return stopAt(stepCount);
        }
    }

    /** A kingdom with its law; with no places there is none. */
    private static final class Realm {
        /** Above every length by road, and twice it is still an int. */
        private static final int FAR = 1000000;

        private int places;
        private int days;
        private int lines;
        /** Days with flood, as bits. */
        private int floods;
        private final Law law;
        private final Link[] roads;
        private int roadCount;
        /** One more than can be told, for a lane in thought. */
        private final Link[] lanes;
        private int laneCount;
        private final Walk[] walks;
        private int walkCount;
        private final int[] distances;

        Realm() {
            law = new Law();
            law.begin();
            roads = new Link[MAX_ROADS];
            for (int i = 0; i < MAX_ROADS; i++) {
                roads[i] = new Link(i);
            }
            lanes = new Link[MAX_LANES + 1];
            for (int i = 0; i <= MAX_LANES; i++) {
                lanes[i] = new Link(i);
            }
            walks = new Walk[MAX_WALKS];
            for (int i = 0; i < MAX_WALKS; i++) {
                walks[i] = new Walk();
            }
            distances = new int[PAIRS];
        }

        void begin() {
            places = 0;
            days = 0;
            lines = 0;
            floods = 0;
            law.begin();
            roadCount = 0;
            laneCount = 0;
            walkCount = 0;
        }

        void become(Realm other) {
            places = other.places;
            days = other.days;
            lines = other.lines;
            floods = other.floods;
            law.become(other.law);
            roadCount = other.roadCount;
            for (int i = 0; i < roadCount; i++) {
                roads[i].become(other.roads[i]);
            }
            laneCount = other.laneCount;
            for (int i = 0; i < laneCount; i++) {
                lanes[i].become(other.lanes[i]);
            }
            walkCount = other.walkCount;
            for (int i = 0; i < walkCount; i++) {
                walks[i].become(other.walks[i]);
            }
            System.arraycopy(other.distances, 0, distances, 0, PAIRS);
        }

        boolean exists() {
            return places > 0;
        }

        boolean hasPlace(int place) {
            return place >= 0 && place < places;
        }

        boolean hasDay(int day) {
            return day >= 0 && day < days;
        }

        boolean hasRoad(int number) {
            return number >= 0 && number < roadCount;
        }

        boolean hasLane(int number) {
            return number >= 0 && number < laneCount;
        }

        boolean hasWalk(int number) {
            return number >= 0 && number < walkCount;
        }

        /** The next road or lane that can be told; null if there are as many as can be. */
        Link spareLink(int kind) {
            if (kind == Link.ROAD) {
                return roadCount < MAX_ROADS ? roads[roadCount] : null;
            }
            return laneCount < MAX_LANES ? lanes[laneCount] : null;
        }

        void takeSpareLink(int kind) {
            if (kind == Link.ROAD) {
                roadCount++;
            } else {
                laneCount++;
            }
        }

        /** A lane behind those that were told, open on all days and not watched. */
        void addLane() {
            if (laneCount <= MAX_LANES) {
                lanes[laneCount].begin(Link.LANE);
                lanes[laneCount].lastDay = days - 1;
                laneCount++;
            }
        }

        void placeLastLane(int a, int b, int span) {
            if (laneCount > 0) {
                lanes[laneCount - 1].ends = 1 << a | 1 << b;
                lanes[laneCount - 1].span = span;
            }
        }

        boolean isOpen(Link lane, int day) {
            switch (lane.kind) {
                case Link.LANE:
                    return day >= lane.firstDay && day <= lane.lastDay;
                case Link.FORD:
                    return (floods & (1 << day)) == 0;
                default:
                    return true;
            }
        }

        /** The road between two places; null if they have none. */
        Link roadOf(int a, int b) {
            int ends = 1 << a | 1 << b;
            for (int i = 0; i < roadCount; i++) {
                if (roads[i].ends == ends) {
                    return roads[i];
                }
            }
            return null;
        }

        /** What joins two places on a day; null for nothing. */
        Link linkOf(int a, int b, int day) {
            Link link = roadOf(a, b);
            int ends = 1 << a | 1 << b;
            for (int i = 0; i < laneCount; i++) {
                boolean isShorter = link == null || lanes[i].span < link.span;
                if (isShorter && lanes[i].ends == ends && isOpen(lanes[i], day)) {
                    link = lanes[i];
                }
            }
            return link;
        }

        int watchedLanes() {
            int bits = 0;
            for (int i = 0; i < laneCount; i++) {
                bits |= lanes[i].watched > 0 ? 1 << i : 0;
            }
            return bits;
        }

        int boatLanes() {
            int bits = 0;
            for (int i = 0; i < laneCount; i++) {
                bits |= lanes[i].kind == Link.BOAT ? 1 << i : 0;
            }
            return bits;
        }

        /** Lengths by road between all places; they hold until a road is another. */
        void reckonRoads() {
            for (int a = 0; a < places; a++) {
                for (int b = 0; b < places; b++) {
                    Link link = roadOf(a, b);
                    int direct = link == null ? FAR : link.span;
                    distances[pairOf(a, b)] = a == b ? 0 : direct;
                }
            }
            for (int over = 0; over < places; over++) {
                for (int a = 0; a < places; a++) {
                    for (int b = 0; b < places; b++) {
                        int round = distances[pairOf(a, over)] + distances[pairOf(over, b)];
                        distances[pairOf(a, b)] = Math.min(distances[pairOf(a, b)], round);
                    }
                }
            }
        }

        int byRoad(int from, int to) {
            int distance = distances[pairOf(from, to)];
            return distance < FAR ? distance : NONE;
        }

        int placeByRoad(int from, int to, int i) {
            if (i < 0 || i >= MAX_PLACES || byRoad(from, to) == NONE) {
                return NONE;
            }
            int at = from;
            for (int gone = 0; gone < i; gone++) {
                at = at == NONE ? NONE : nextByRoad(at, to);
            }
            return at;
        }

        /** The least place that lies next on a least way; NONE at its end. */
        private int nextByRoad(int at, int to) {
            for (int next = 0; next < places; next++) {
                Link link = roadOf(at, next);
                if (link != null && byRoad(next, to) != NONE
                        && link.span + byRoad(next, to) == byRoad(at, to)) {
                    return next;
                }
            }
            return NONE;
        }

        /** What is saved where the length by road may be NONE. */
        static int sparedOf(int roadLength, int span) {
            return roadLength == NONE ? 0 : Math.max(0, roadLength - span);
        }
    }

    /** Reads a tape as a kingdom, up to the first fault. */
    private static final class Reader {
        private static final int AT_END = 0;
        private static final int WORD = 1;
        private static final int NUMBER = 2;
        private static final int SIGN = 3;
        private static final int BLANK = 4;
        private static final int NO_TOKEN = 5;

        private static final int CANNOT_STAND = 1;
        private static final int OUT_OF_BOUNDS = 2;
        private static final int TOO_MANY = 3;

        /** Above every bound; longer numbers are held as this. */
        private static final int HUGE = 1000000;

        private Tape source;
        private Realm target;
        private int fault;
        private int place;
        private int kind;
        private int start;
        private int stop;
        private int value;

        Reader() {
            place = NONE;
        }

        void begin(Tape tape, Realm realm) {
            source = tape;
            target = realm;
            target.begin();
            fault = 0;
            place = NONE;
            stop = 0;
            advance();
        }

        boolean hasLine() {
            return fault == 0 && kind != AT_END;
        }

        void readLine() {
            if (target.lines == 0) {
                readKingdom();
            } else if (isWord("road")) {
                readLink(Link.ROAD);
            } else if (isWord("lane")) {
                readLink(Link.LANE);
            } else if (isWord("ford")) {
                readLink(Link.FORD);
            } else if (isWord("boat")) {
                readLink(Link.BOAT);
            } else if (isWord("flood")) {
                readFlood();
            } else if (isWord("walk")) {
                readWalk();
            } else {
                readLaw();
            }
            if (kind != SIGN) {
                fail(CANNOT_STAND, start);
            }
            advance();
            target.lines++;
        }

        private void readKingdom() {
            takeWord("kingdom");
            target.places = takeNamed("places", 2, MAX_PLACES);
            target.days = takeNamed("days", 1, 30);
            target.law.rate = takeNamed("rate", 0, MAX_LAW);
            target.law.free = takeNamed("free", 0, MAX_LAW);
            target.law.time = takeNamed("time", 0, MAX_LAW);
        }

        private void readLink(int linkKind) {
            Link link = target.spareLink(linkKind);
            if (link == null) {
                fail(TOO_MANY, start);
                return;
            }
            link.begin(linkKind);
            advance();
            int a = takeNumber(0, target.places - 1);
            takeWord("to");
            int b = takeOtherPlace(a, linkKind == Link.ROAD);
            link.ends = 1 << a | 1 << b;
            link.span = takeNumber(1, 30);
            if (linkKind == Link.LANE) {
                takeWord("from");
                link.firstDay = takeNumber(0, target.days - 1);
                takeWord("to");
                link.lastDay = takeNumber(link.firstDay, target.days - 1);
            }
            boolean canBeWatched = linkKind == Link.LANE || linkKind == Link.FORD;
            if (canBeWatched && isWord("watched")) {
                advance();
                link.watched = takeNumber(0, 100);
            }
            if (fault == 0) {
                target.takeSpareLink(linkKind);
            }
        }

        private void readFlood() {
            advance();
            takeWord("on");
            target.floods |= 1 << takeNumber(0, target.days - 1);
        }

        private void readWalk() {
            if (target.walkCount >= MAX_WALKS) {
                fail(TOO_MANY, start);
                return;
            }
            Walk walk = target.walks[target.walkCount];
            advance();
            walk.walker = takeNumber(0, MAX_WALKER);
            walk.load = takeNamed("load", 1, MAX_LOAD);
            takeWord("on");
            walk.day = takeNumber(0, target.days - 1);
            takeWord("from");
            walk.stops[0] = takeNumber(0, target.places - 1);
            takeWord("by");
            walk.stepCount = 0;
            for (int i = 1; i <= MAX_STEPS + 1 && fault == 0 && (i == 1 || kind == NUMBER); i++) {
                int at = start;
                int next = takeOtherPlace(walk.stopAt(i - 1), false);
                if (i > MAX_STEPS) {
                    fail(TOO_MANY, at);
                } else {
                    walk.stops[i] = next;
                    walk.stepCount = i;
                }
            }
            if (fault == 0) {
                target.walkCount++;
            }
        }

        private void readLaw() {
            takeWord("law");
            if (isWord("sunday")) {
                target.law.sundaysDue = 1;
            } else if (isWord("free")) {
                target.law.sundaysDue = 0;
            } else if (isWord("load")) {
                target.law.loadsCount = 1;
            } else if (isWord("light")) {
                target.law.loadsCount = 0;
            } else {
                fail(CANNOT_STAND, start);
            }
            advance();
        }

        private int takeOtherPlace(int ahead, boolean withoutRoad) {
            int at = start;
            int other = takeNumber(0, target.places - 1);
            if (other == ahead || (withoutRoad && target.roadOf(ahead, other) != null)) {
                fail(OUT_OF_BOUNDS, at);
            }
            return other;
        }

        private int takeNamed(String name, int least, int most) {
            takeWord(name);
            return takeNumber(least, most);
        }

        /** A number in its bounds; the least of them behind a fault. */
        private int takeNumber(int least, int most) {
            if (kind != NUMBER) {
                fail(CANNOT_STAND, start);
            } else if (value < least || value > most) {
                fail(OUT_OF_BOUNDS, start);
            }
            if (fault != 0) {
                return least;
            }
            int taken = value;
            advance();
            return taken;
        }

        private void takeWord(String word) {
            if (!isWord(word)) {
                fail(CANNOT_STAND, start);
            }
            advance();
        }

        /** Tokens are taken in order, so the first fault that is told has the first place. */
        private void fail(int which, int where) {
            if (fault == 0) {
                fault = which;
                place = where;
            }
        }

        private boolean isWord(String word) {
            if (kind != WORD || stop - start != word.length()) {
                return false;
            }
            for (int i = start; i < stop; i++) {
                if (source.bytes[i] != word.charAt(i - start)) {
                    return false;
                }
            }
            return true;
        }

        /** Goes on to the next token, unless there is a fault. */
        private void advance() {
            if (fault != 0) {
                return;
            }
            start = stop;
            while (start < source.size && kindOf(source.bytes[start]) == BLANK) {
                start++;
            }
            kind = start < source.size ? kindOf(source.bytes[start]) : AT_END;
            value = 0;
            int longest = kind == WORD || kind == NUMBER ? source.size : Math.min(start + 1, source.size);
            for (stop = start; stop < longest && kindOf(source.bytes[stop]) == kind; stop++) {
                value = kind == NUMBER ? Math.min(HUGE, value * 10 + source.bytes[stop] - '0') : 0;
            }
        }

        private static int kindOf(int sign) {
            if (sign == 32 || sign == 10) {
                return BLANK;
            }
            if (sign >= 'a' && sign <= 'z') {
                return WORD;
            }
            if (sign >= '0' && sign <= '9') {
                return NUMBER;
            }
            return sign == ';' ? SIGN : NO_TOKEN;
        }
    }

    /** A told walk, followed step by step. */
    private static final class Trip {
        private int lawfulSteps;
        private boolean lawful;
        private int total;
        private int laneBits;
        private int spared;
        private int owed;
        /** By how many of a hundred each step is seen that goes by a watched lane. */
        private final int[] watches;
        private int watchCount;

        Trip() {
            watches = new int[MAX_STEPS];
        }

        void follow(Realm realm, int number) {
            Walk walk = realm.walks[number];
            lawfulSteps = 0;
            lawful = true;
            total = 0;
            laneBits = 0;
            watchCount = 0;
            for (int i = 0; i < walk.stepCount && lawful; i++) {
                Link link = realm.linkOf(walk.stopAt(i), walk.stopAt(i + 1), walk.day);
                lawful = link != null;
                if (link != null) {
                    goBy(link);
                }
            }
            spared = Realm.sparedOf(realm.byRoad(walk.first(), walk.last()), total);
            boolean byBoat = (laneBits & realm.boatLanes()) != 0;
            owed = byBoat ? 0 : realm.law.dutyOn(spared, walk.load, walk.day);
        }

        private void goBy(Link link) {
            lawfulSteps++;
            total += link.span;
            laneBits |= link.laneBit();
            if (link.watched > 0 && watchCount < MAX_STEPS) {
                watches[watchCount] = link.watched;
                watchCount++;
            }
        }

        /** The chance to be seen, so many times, in lowest terms: above (what 0), below. */
        long fraction(int times, int what) {
            long unseen = 1;
            long below = 1;
            for (int i = 0; i < watchCount; i++) {
                unseen *= 100 - watches[i];
                below *= 100;
            }
            long above = times * (below - unseen);
            long divisor = commonDivisor(above, below);
            if (divisor == 0) {
                return what;
            }
            return (what == 0 ? above : below) / divisor;
        }

        private static long commonDivisor(long a, long b) {
            long x = a;
            long y = b;
            // Each two turns halve x at least: 200 are more than a long can need.
            for (int i = 0; i < 200 && y != 0; i++) {
                long rest = x % y;
                x = y;
                y = rest;
            }
            return x;
        }

        /** All watched steps draw; the chain of draws starts anew with the seed. */
        boolean isSeenFrom(int seed) {
            long x = seed;
            boolean isSeen = false;
            for (int i = 0; i < watchCount; i++) {
                x = (1103515245L * x + 12345L) % 2147483648L;
                isSeen |= x / 65536 % 100 < watches[i];
            }
            return isSeen;
        }
    }

    /** All ways from a place to another one on a day, in the order of their rows of places. */
    private static final class Ways {
        /** Rows without a place twice between two of seven places. */
        private static final int LIMIT = 326;
        /** A row holds each place in three bits, the first lowest. */
        private static final int PLACE_BITS = 3;

        private final int[] lengths;
        private final int[] laneBits;
        private final int[] sizes;
        private final int[] rows;
        private int found;
        /** Between two places: how long the step is (0: there is none), and its lane's bit. */
        private final int[] stepLengths;
        private final int[] stepLanes;
        private Realm realm;
        private int roadLength;
        private int boats;
        private int goal;
        private int day;
        private int load;

        Ways() {
            lengths = new int[LIMIT];
            laneBits = new int[LIMIT];
            sizes = new int[LIMIT];
            rows = new int[LIMIT];
            stepLengths = new int[PAIRS];
            stepLanes = new int[PAIRS];
        }

        void find(Realm in, int from, int to, int onDay, int withLoad) {
            realm = in;
            roadLength = in.byRoad(from, to);
            boats = in.boatLanes();
            goal = to;
            day = onDay;
            load = withLoad;
            found = 0;
            reckonSteps();
            extend(this, 0, 1 << from, 0, 0, from);
        }

        private void reckonSteps() {
            for (int a = 0; a < realm.places; a++) {
                for (int b = a + 1; b < realm.places; b++) {
                    Link link = realm.linkOf(a, b, day);
                    int span = link == null ? 0 : link.span;
                    int bit = link == null ? 0 : link.laneBit();
                    stepLengths[pairOf(a, b)] = span;
                    stepLengths[pairOf(b, a)] = span;
                    stepLanes[pairOf(a, b)] = bit;
                    stepLanes[pairOf(b, a)] = bit;
                }
            }
        }

        /** Goes on from a row's last place, the least next place first. */
        private static void extend(Ways ways, int steps, int used, int length, int lanes, int row) {
            int at = placeIn(row, steps);
            if (at == ways.goal) {
                ways.note(steps + 1, length, lanes, row);
                return;
            }
            for (int next = 0; next < ways.realm.places && steps < MAX_STEPS; next++) {
                int pair = pairOf(at, next);
                boolean isFresh = (used & (1 << next)) == 0;
                if (isFresh && ways.stepLengths[pair] > 0) {
                    int longer = row | next << (PLACE_BITS * (steps + 1));
                    extend(ways, steps + 1, used | 1 << next, length + ways.stepLengths[pair],
                            lanes | ways.stepLanes[pair], longer);
                }
            }
        }

        private static int placeIn(int row, int i) {
            return row >> (PLACE_BITS * i) & 7;
        }

        private void note(int size, int length, int lanes, int row) {
            if (found < LIMIT) {
                sizes[found] = size;
                lengths[found] = length;
                laneBits[found] = lanes;
                rows[found] = row;
                found++;
            }
        }

        /** The least length of those ways that shun some lanes. */
        int leastLength(int shunned) {
            int least = NONE;
            for (int i = 0; i < found; i++) {
                if ((laneBits[i] & shunned) == 0 && (least == NONE || lengths[i] < least)) {
                    least = lengths[i];
                }
            }
            return least;
        }

        /** A way's duty, if it were so much longer than it is. */
        int dutyOf(int i, int longer) {
            if ((laneBits[i] & boats) != 0) {
                return 0;
            }
            return realm.law.dutyOn(Realm.sparedOf(roadLength, lengths[i] + longer), load, day);
        }

        int costOf(int i) {
            return realm.law.time * lengths[i] + dutyOf(i, 0);
        }

        int bestIndex() {
            int best = NONE;
            int least = 0;
            for (int i = 0; i < found; i++) {
                int cost = costOf(i);
                boolean isBetter = best == NONE || cost < least
                        || (cost == least && lengths[i] < lengths[best]);
                if (isBetter) {
                    best = i;
                    least = cost;
                }
            }
            return best;
        }

        int placeOf(int way, int i) {
            if (way < 0 || way >= found || i < 0 || i >= sizes[way]) {
                return NONE;
            }
            return placeIn(rows[way], i);
        }

        int countOwing(long duty) {
            int sum = 0;
            for (int i = 0; i < found; i++) {
                sum += dutyOf(i, 0) == duty ? 1 : 0;
            }
            return sum;
        }

        /** Lanes on all ways that owe a duty; NONE if none do. */
        int commonLanes(int duty) {
            int common = NONE;
            for (int i = 0; i < found; i++) {
                if (dutyOf(i, 0) == duty) {
                    common = common == NONE ? laneBits[i] : common & laneBits[i];
                }
            }
            return common;
        }

        boolean canOweOver(int laneBit, int longer, int duty) {
            for (int i = 0; i < found; i++) {
                if ((laneBits[i] & laneBit) != 0 && dutyOf(i, longer) == duty) {
                    return true;
                }
            }
            return false;
        }
    }

    /** Four rows of numbers, each with its width, or with nothing. */
    private static final class Slots {
        private static final int SLOTS = 4;
        private static final int LONGEST = 60;
        private static final int WIDEST = 3;

        private final long[] values;
        private final int[] sizes;
        /** NONE: the slot has nothing. */
        private final int[] widths;

        Slots() {
            values = new long[SLOTS * LONGEST];
            sizes = new int[SLOTS];
            widths = new int[SLOTS];
            for (int i = 0; i < SLOTS; i++) {
                widths[i] = NONE;
            }
        }

        boolean has(int slot) {
            return slot >= 0 && slot < SLOTS;
        }

        boolean isBare(int slot) {
            return widths[slot] == NONE;
        }

        int filled() {
            int sum = 0;
            for (int i = 0; i < SLOTS; i++) {
                sum += isBare(i) ? 0 : 1;
            }
            return sum;
        }

        void begin(int slot, int width, int n) {
            widths[slot] = width;
            sizes[slot] = n;
            for (int i = 0; i < LONGEST; i++) {
                values[slot * LONGEST + i] = 0;
            }
        }

        boolean covers(int slot, int i, int n) {
            return i >= 0 && n >= 0 && i <= sizes[slot] - n;
        }

        long valueAt(int slot, int i) {
            return values[slot * LONGEST + i];
        }

        void put(int slot, int i, long v) {
            values[slot * LONGEST + i] = cut(v, widths[slot]);
        }

        private static long cut(long v, int width) {
            switch (width) {
                case 0:
                    return (byte) v;
                case 1:
                    return (short) v;
                case 2:
                    return (int) v;
                default:
                    return v;
            }
        }

        void transfer(int slot, int i, int to, int k, int n) {
            System.arraycopy(values, slot * LONGEST + i, values, to * LONGEST + k, n);
        }
    }
}
