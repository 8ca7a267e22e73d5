/**
 * Doors shut behind one: a house of rooms with doors of kinds between them, and errands by night.
 * Refusals are answers; no call throws.
 */
public final class DoorsBehind {
    public static final int NONE = -1000000, BAD = -1000001, STATE = -1000002, FULL = -1000003;

    private static final int FOUND = -1000010, FAULTY = -1000100;
    private static final int NULL = 1, PLACE = 2, KIND = 3, SIZE = 4, STORE = 5;
    private static final int ASTRAY = 6, LOCKED = 7, BROKEN = 8, WOKEN = 9, DARK = 10, EMPTY = 11;

    private static final int ROWS = 8, ITEMS = 40, ROOMS = 8, DOORS = 8, KINDS = 5;
    private static final int TAPE = 110, ACTS = 24, IMAGES = 2, WAY = 3, TURNS = 3;
    private static final int MOST_LIGHT = 9, MOST_SLEEP = 60, ALL_KEYS = 63, MOST_WEIGHT = 20, MOST_N = 9;
    // An errand opens each door once, tells one outcome, and shuts each door once.
    private static final int LEDGER = 2 * DOORS + 1;
    private static final int TRACE = 16;

    private final Row[] rows = new Row[ROWS];
    private final Reader reader = new Reader();
    private final Walk real = new Walk();
    private final House house = real.house;
    private final Numbers ledger = real.ledger;
    // What is foretold is walked in a house of its own, with a ledger of its own, so that nothing changes.
    private final Walk dream = new Walk();
    private final House dreamt = dream.house;
    private final House[] acts = new House[ACTS];
    private final House[] images = new House[IMAGES];
    private final Numbers trace = new Numbers(TRACE);
    private final House[] turns = new House[TURNS];
    private final int[] route = new int[WAY];
    private int oldestAct, actCount;
    private int latestFault;
    private int latestFinding;

    public DoorsBehind() {
        for (int k = 0; k < rows.length; k++) rows[k] = new Row();
        for (int k = 0; k < acts.length; k++) acts[k] = new House();
        for (int k = 0; k < images.length; k++) images[k] = new House();
        for (int k = 0; k < turns.length; k++) turns[k] = new House();
    }

    // ---- rows

    public int row(int row, int lane, int n) {
        if (lacksRow(row) || lane < 0 || lane > 2 || n > ITEMS) return BAD;
        if (n < 0) return found(SIZE);
        rows[row].begin(lane, n);
        return well(n);
    }

    public int set(int row, int i, int v) {
        if (lacksRow(row)) return BAD;
        Row r = rows[row];
        if (r.isMissing()) return found(NULL);
        if (!r.holds(i, 1)) return found(PLACE);
        return well(r.put(i, v));
    }

    public int copy(int a, int i, int b, int j, int n) {
        if (lacksRow(a) || lacksRow(b)) return BAD;
        Row from = rows[a], to = rows[b];
        if (from.isMissing() || to.isMissing()) return found(NULL);
        if (from.lane != to.lane) return found(STORE);
        if (!from.holds(i, n) || !to.holds(j, n)) return found(PLACE);
        System.arraycopy(from.items, i, to.items, j, n);
        return well(n);
    }

    public int drop(int row) {
        if (lacksRow(row)) return BAD;
        Row r = rows[row];
        if (r.isMissing()) return found(NULL);
        int had = r.length;
        r.end();
        return well(had);
    }

    // ---- what is told

    public int feed(int letter) {
        if (letter < 0 || letter > 255) return BAD;
        if (reader.isFull()) return FULL;
        return reader.take(letter);
    }

    public int house() {
        reader.read();
        if (reader.fault != 0) {
            latestFault = reader.fault;
            return FAULTY - reader.at;
        }
        house.become(reader.draft);
        forgetActs();
        ledger.clear();
        return house.doorCount;
    }

    public int fault() {
        return latestFault;
    }

    public int undo() {
        if (actCount == 0) return STATE;
        actCount--;
        house.become(acts[(oldestAct + actCount) % ACTS]);
        return actCount;
    }

    // ---- what is done

    public int errand(int row, int i, int n) {
        if (!house.stands()) return STATE;
        if (isBadRoute(row, n)) return BAD;
        int lack = lackOfRoute(row, i, n);
        if (lack != 0) return found(lack);
        keepAct();
        real.go(rows[row].items, i, n);
        return real.finding == 0 ? well(real.weight) : found(real.finding);
    }

    public int ledger(int i) {
        return ledger.at(i);
    }

    public int oil(int door) {
        if (house.lacksDoor(door)) return BAD;
        int was = house.wear[door];
        if (was == 0) return STATE;
        keepAct();
        house.wear[door] = 0;
        return was;
    }

    public int bring(int room, int v) {
        if (house.lacksRoom(room) || v < 1 || v > MOST_WEIGHT) return BAD;
        if (house.weight[room] != 0) return STATE;
        keepAct();
        house.weight[room] = v;
        return house.weightOfAll();
    }

    public int rule(int which, int v) {
        if (!house.stands()) return STATE;
        if (!isRule(which, v)) return BAD;
        keepAct();
        int was;
        if (which == 0) {
            was = house.keys;
            house.keys = v;
        } else if (which == 1) {
            was = house.light;
            house.light = v;
        } else {
            was = house.sleep;
            house.sleep = v;
        }
        return was;
    }

    public int door(int door, int what) {
        Door d = house.doorAt(door);
        if (d == null || house.lacksDoor(door)) return BAD;
        switch (what) {
            case 0: return d.from;
            case 1: return d.to;
            case 2: return d.n;
            case 3: return house.wear[door];
            case 4: return d.loud(house.wear[door]);
            case 5: return d.gap();
            default: return BAD;
        }
    }

    public int room(int room, int what) {
        if (house.lacksRoom(room)) return BAD;
        switch (what) {
            case 0: return house.weight[room];
            case 1: return house.doorsOf(room);
            default: return BAD;
        }
    }

    // ---- foretold

    public int would(int row, int i, int n, int what) {
        if (!house.stands()) return STATE;
        if (isBadRoute(row, n) || what < 0 || what > 4) return BAD;
        int lack = lackOfRoute(row, i, n);
        if (lack != 0) return found(lack);
        foretell(rows[row].items, i, n);
        switch (what) {
            case 0: return well(dream.outcome());
            case 1: return well(dream.noise);
            case 2: return well(dream.draught);
            case 3: return well(dream.openedCount);
            default: return well(dream.room);
        }
    }

    public int way(int room, int k) {
        if (house.lacksRoom(room) || k < -1) return BAD;
        for (int length = 0; length <= WAY; length++) {
            if (findWay(0, room, 0, length)) {
                if (k == -1) return length;
                return k < length && k < route.length ? route[k] : NONE;
            }
        }
        return NONE;
    }

    public int needs(int row, int i, int n, int what) {
        if (!house.stands()) return STATE;
        if (isBadRoute(row, n) || what < 0 || what > 2) return BAD;
        int lack = lackOfRoute(row, i, n);
        if (lack != 0) return found(lack);
        dreamt.become(house);
        if (what == 2) dreamt.sleep = MOST_SLEEP;
        else dreamt.keys = ALL_KEYS;
        dream.go(rows[row].items, i, n);
        if (dream.finding != 0) return well(NONE);
        // Noise and keys used only ever grow on an errand, so what it came to at last is what it needs.
        if (what == 2) return well(Math.max(1, dream.noise));
        return well(what == 1 ? dream.keysUsed : Integer.bitCount(dream.keysUsed));
    }

    public int sets(int v, int what) {
        if (!house.stands()) return STATE;
        if (v < 0 || v > ROOMS * MOST_WEIGHT || what < 0 || what > 2) return BAD;
        int filled = house.filledRooms();
        int many = 0, inAll = filled, inAny = 0;
        for (int set = 0; set < 1 << ROOMS; set++) {
            if ((set & ~filled) == 0 && house.weightOf(set) == v) {
                many++;
                inAll &= set;
                inAny |= set;
            }
        }
        if (what == 0) return many;
        if (what == 2) return inAny;
        return many == 0 ? 0 : inAll;
    }

    public int share(int room, int n) {
        if (house.lacksRoom(room) || n < 0 || n > 999) return BAD;
        int all = house.weightOfAll();
        if (all == 0 || house.weight[room] == 0) return 0;
        int over = n, filledBefore = 0;
        for (int r = 0; r < house.roomCount; r++) {
            over -= n * house.weight[r] / all;
            if (r < room && house.weight[r] != 0) filledBefore++;
        }
        int own = n * house.weight[room] / all;
        return filledBefore < over ? own + 1 : own;
    }

    public int byTurns(int n) {
        if (!house.stands()) return STATE;
        if (n < 0 || n > TURNS) return BAD;
        dreamt.become(house);
        return playTurns(0, n);
    }

    public int who(int door, int which, int row, int i, int n, int v) {
        if (house.lacksDoor(door) || which < 0 || which > 3) return BAD;
        if (isBadRoute(row, n) || !isOutcome(v)) return BAD;
        int lack = lackOfRoute(row, i, n);
        if (lack != 0) return found(lack);
        int[] doors = rows[row].items;
        if (which == 0) return well(kindsFor(door, doors, i, n, v));
        if (which == 1) return well(numbersFor(door, doors, i, n, v));
        return well(keysFor(which == 3, doors, i, n, v));
    }

    public long sticks(int row, int i, int n, int p, int what) {
        if (!house.stands()) return STATE;
        if (isBadRoute(row, n) || p < 0 || p > 10 || what < 0 || what > 1) return BAD;
        int lack = lackOfRoute(row, i, n);
        if (lack != 0) return found(lack);
        foretell(rows[row].items, i, n);
        well(0);
        int common = commonDivisor(10 - p, 10);
        // Never well is 0 by 1, and what asks for the 0 or for the 1.
        if (dream.finding != 0 || common == 0) return what;
        return power(what == 0 ? (10 - p) / common : 10 / common, dream.openedCount);
    }

    public int drawn(int n, int seed, int what) {
        if (!house.stands()) return STATE;
        if (n < 0 || n > 60 || seed < 1 || seed > 999999 || what < 0 || what > 1) return BAD;
        dreamt.become(house);
        int taken = 0, cameWell = 0;
        long x = seed;
        for (int night = 0; night < n; night++) {
            x = x * 16807 % 2147483647L;
            goDrawn(x);
            if (dream.finding == 0) {
                taken += dream.weight;
                cameWell++;
            }
        }
        return what == 0 ? taken : cameWell;
    }

    public int image(int k) {
        if (k < 0 || k >= IMAGES) return BAD;
        if (!house.stands()) return STATE;
        images[k].become(house);
        return 1;
    }

    public int restore(int k) {
        if (k < 0 || k >= IMAGES) return BAD;
        if (!images[k].stands()) return STATE;
        house.become(images[k]);
        forgetActs();
        return 1;
    }

    // ---- asked

    public int kind(int one) {
        Door d = house.doorAt(one);
        return d == null ? BAD : d.sort();
    }

    public int as(int one, int kind) {
        Door d = house.doorAt(one);
        if (d == null || kind < 0 || kind > KINDS) return BAD;
        return d.is(kind) ? well(d.number) : found(KIND);
    }

    public int ask(int one, int what) {
        Door d = house.doorAt(one);
        if (d == null || house.lacksDoor(one) || what < 0 || what > 1) return BAD;
        trace.clear();
        int wear = house.wear[one];
        return what == 0 ? d.size(wear, trace) : d.mark(wear, trace);
    }

    public int trace(int i) {
        return trace.at(i);
    }

    public int count(int what) {
        switch (what) {
            case 0: return rowsThere();
            case 1: return house.doorCount;
            case 2: return house.roomCount;
            case 3: return house.weightOfAll();
            case 4: return house.taken;
            case 5: return house.wearOfAll();
            case 6: return ledger.length;
            case 7: return actCount;
            case 8: return reader.length;
            default: return BAD;
        }
    }

    public int status() {
        return latestFinding;
    }

    // ---- answers of calls with a row, and of as()

    private int found(int finding) {
        latestFinding = finding;
        return FOUND - finding;
    }

    private int well(int answer) {
        latestFinding = 0;
        return answer;
    }

    // ---- what is looked at ahead of a call

    private static boolean lacksRow(int row) {
        return row < 0 || row >= ROWS;
    }

    private static boolean isBadRoute(int row, int n) {
        return lacksRow(row) || n < 0 || n > DOORS;
    }

    /** NULL, PLACE, or 0 where the row has n items from i on. */
    private int lackOfRoute(int row, int i, int n) {
        if (lacksRow(row) || rows[row].isMissing()) return NULL;
        return rows[row].holds(i, n) ? 0 : PLACE;
    }

    private static boolean isRule(int which, int v) {
        switch (which) {
            case 0: return v >= 0 && v <= ALL_KEYS;
            case 1: return v >= 1 && v <= MOST_LIGHT;
            case 2: return v >= 1 && v <= MOST_SLEEP;
            default: return false;
        }
    }

    private static boolean isOutcome(int v) {
        return v >= 0 && v <= ROOMS * MOST_WEIGHT || v >= 1000 + ASTRAY && v <= 1000 + EMPTY;
    }

    private int rowsThere() {
        int there = 0;
        for (int k = 0; k < rows.length; k++) {
            if (!rows[k].isMissing()) there++;
        }
        return there;
    }

    // ---- acts

    private void keepAct() {
        acts[(oldestAct + actCount) % ACTS].become(house);
        if (actCount < ACTS) actCount++;
        else oldestAct = (oldestAct + 1) % ACTS;
    }

    private void forgetActs() {
        actCount = 0;
    }

    // ---- what is foretold

    private void foretell(int[] doors, int i, int n) {
        dreamt.become(house);
        dream.go(doors, i, n);
    }

    /** Leaves the first way of this length in the route; rooms that are not joined are not tried. */
    private boolean findWay(int room, int goal, int depth, int length) {
        if (depth >= length || depth >= route.length) {
            if (room != goal) return false;
            foretell(route, 0, depth);
            return dream.finding == 0;
        }
        for (int k = 0; k < house.doorCount; k++) {
            Door d = house.doorAt(k);
            if (d != null && d.leadsFrom(room)) {
                route[depth] = k;
                if (findWay(d.beyond(room), goal, depth + 1, length)) return true;
            }
        }
        return false;
    }

    /** The dreamt house is as it is ahead of this turn; even turns are the one's, odd ones the other's. */
    private int playTurns(int turn, int n) {
        if (turn >= n || turn >= turns.length) return 0;
        House ahead = turns[turn];
        ahead.become(dreamt);
        boolean isTheOne = turn % 2 == 0;
        int best = playTurns(turn + 1, n);
        for (int k = 0; k < ahead.doorCount; k++) {
            Door d = ahead.doorAt(k);
            // An errand that goes astray at once is the same as none at all.
            if (d != null && d.leadsFrom(0)) {
                dreamt.become(ahead);
                route[0] = k;
                dream.go(route, 0, 1);
                int took = dream.finding == 0 ? dream.weight : 0;
                int comes = (isTheOne ? took : -took) + playTurns(turn + 1, n);
                best = isTheOne ? Math.max(best, comes) : Math.min(best, comes);
            }
        }
        return best;
    }

    private int kindsFor(int door, int[] doors, int i, int n, int v) {
        int kinds = 0;
        for (int sort = 1; sort <= KINDS; sort++) {
            dreamt.become(house);
            dreamt.changeDoor(door, sort, dreamt.numberOf(door));
            dream.go(doors, i, n);
            if (dream.outcome() == v) kinds |= 1 << sort;
        }
        return kinds;
    }

    private int numbersFor(int door, int[] doors, int i, int n, int v) {
        int numbers = 0;
        for (int number = 0; number <= MOST_N; number++) {
            dreamt.become(house);
            dreamt.changeDoor(door, dreamt.sortOf(door), number);
            dream.go(doors, i, n);
            if (dream.outcome() == v) numbers |= 1 << number;
        }
        return numbers;
    }

    private int keysFor(boolean wantsLeast, int[] doors, int i, int n, int v) {
        int many = 0;
        for (int keys = 0; keys <= ALL_KEYS; keys++) {
            dreamt.become(house);
            dreamt.keys = keys;
            dream.go(doors, i, n);
            if (dream.outcome() == v) {
                if (wantsLeast) return keys;
                many++;
            }
        }
        return wantsLeast ? NONE : many;
    }

    private void goDrawn(long x) {
        int rooms = dreamt.roomCount, doors = dreamt.doorCount;
        if (rooms == 0 || doors == 0) return;
        int room = (int) (x % rooms);
        if (x % 3 == 0 && !dreamt.lacksRoom(room) && dreamt.weight[room] == 0) dreamt.weight[room] = 5;
        route[0] = (int) (x / 8 % doors);
        route[1] = (int) (x / 64 % doors);
        dream.go(route, 0, 2);
    }

    private static int commonDivisor(int a, int b) {
        int large = b, small = a;
        for (int step = 0; step < 64 && small != 0; step++) {
            int left = large % small;
            large = small;
            small = left;
        }
        return large;
    }

    private static long power(int base, int times) {
        long all = 1;
        for (int k = 0; k < times; k++) all *= base;
        return all;
    }

    /** Items of a lane, or missing. */
    private static final class Row {
        final int[] items = new int[ITEMS];
        int lane = -1;
        int length;

        boolean isMissing() {
            return lane < 0;
        }

        void begin(int newLane, int n) {
            lane = newLane;
            length = Math.max(0, Math.min(n, items.length));
            for (int k = 0; k < length; k++) items[k] = 0;
        }

        void end() {
            lane = -1;
            length = 0;
        }

        boolean holds(int i, int n) {
            return i >= 0 && n >= 0 && n <= length && i <= length - n;
        }

        int put(int i, int v) {
            int kept = lane == 0 ? (byte) v : lane == 1 ? (short) v : v;
            if (holds(i, 1)) items[i] = kept;
            return kept;
        }
    }

    /** Numbers in a row, the first ones, as many as there is room for. */
    private static final class Numbers {
        final int[] numbers;
        int length;

        Numbers(int most) {
            numbers = new int[Math.max(0, most)];
        }

        void clear() {
            length = 0;
        }

        void add(int number) {
            if (length < numbers.length) {
                numbers[length] = number;
                length++;
            }
        }

        int at(int i) {
            return i >= 0 && i < length ? numbers[i] : NONE;
        }
    }

    /** A door of any kind; its bodies of asks are those that are lent to all. It does not change: wear is told to it. */
    private abstract static class Door {
        final int number, from, to, n;

        Door(int number, int from, int to, int n) {
            this.number = number;
            this.from = from;
            this.to = to;
            this.n = n;
        }

        static Door of(int sort, int number, int from, int to, int n) {
            switch (sort) {
                case 2: return new Bolt(number, from, to, n);
                case 3: return new Creaker(number, from, to, n);
                case 4: return new Lock(number, from, to, n);
                case 5: return new Seal(number, from, to, n);
                default: return new Latch(number, from, to, n);
            }
        }

        abstract int sort();

        abstract int loud(int wear);

        boolean is(int wanted) {
            return wanted == 0;
        }

        int gap() {
            return 1;
        }

        /** The key that it must have, as a bit; 0: it needs none. */
        int keyBit() {
            return 0;
        }

        boolean isBroken(int wear) {
            return false;
        }

        boolean leadsFrom(int room) {
            return room == from || room == to;
        }

        int beyond(int room) {
            return room == from ? to : from;
        }

        int size(int wear, Numbers trace) {
            trace.add(10);
            return n;
        }

        int mark(int wear, Numbers trace) {
            trace.add(20);
            return number;
        }
    }

    private static class Latch extends Door {
        Latch(int number, int from, int to, int n) {
            super(number, from, to, n);
        }

        int sort() {
            return 1;
        }

        boolean is(int wanted) {
            return wanted == 1 || super.is(wanted);
        }

        int loud(int wear) {
            return n;
        }

        int size(int wear, Numbers trace) {
            trace.add(11);
            int lent = super.size(wear, trace);
            return lent + mark(wear, trace);
        }

        int mark(int wear, Numbers trace) {
            trace.add(21);
            return super.mark(wear, trace) + wear;
        }
    }

    private static final class Bolt extends Latch {
        Bolt(int number, int from, int to, int n) {
            super(number, from, to, n);
        }

        int sort() {
            return 2;
        }

        boolean is(int wanted) {
            return wanted == 2 || super.is(wanted);
        }

        int loud(int wear) {
            return n / 2;
        }

        int gap() {
            return 2;
        }

        int size(int wear, Numbers trace) {
            trace.add(12);
            return -super.size(wear, trace);
        }

        int mark(int wear, Numbers trace) {
            trace.add(24);
            return 2 * super.mark(wear, trace);
        }
    }

    private static final class Creaker extends Latch {
        Creaker(int number, int from, int to, int n) {
            super(number, from, to, n);
        }

        int sort() {
            return 3;
        }

        boolean is(int wanted) {
            return wanted == 3 || super.is(wanted);
        }

        int loud(int wear) {
            return n + 2 * wear;
        }

        int mark(int wear, Numbers trace) {
            trace.add(22);
            return super.mark(wear, trace) - 1000;
        }
    }

    private static class Lock extends Door {
        Lock(int number, int from, int to, int n) {
            super(number, from, to, n);
        }

        int sort() {
            return 4;
        }

        boolean is(int wanted) {
            return wanted == 4 || super.is(wanted);
        }

        int loud(int wear) {
            return 1;
        }

        int keyBit() {
            return 1 << (n % 6);
        }

        int size(int wear, Numbers trace) {
            trace.add(13);
            return super.size(wear, trace) - 100;
        }

        int mark(int wear, Numbers trace) {
            trace.add(23);
            int lent = super.mark(wear, trace);
            return lent - size(wear, trace);
        }
    }

    private static final class Seal extends Lock {
        Seal(int number, int from, int to, int n) {
            super(number, from, to, n);
        }

        int sort() {
            return 5;
        }

        boolean is(int wanted) {
            return wanted == 5 || super.is(wanted);
        }

        int gap() {
            return 0;
        }

        boolean isBroken(int wear) {
            return wear != 0;
        }

        int size(int wear, Numbers trace) {
            trace.add(14);
            return 2 * super.size(wear, trace);
        }
    }

    /** A house as it stands, with all that acts change in it; without rooms there is none. */
    private static final class House {
        final int[] weight = new int[ROOMS];
        final int[] wear = new int[DOORS];
        final Door[] doors = new Door[DOORS];
        int roomCount, doorCount;
        int light, sleep, keys;
        int taken;

        boolean stands() {
            return roomCount > 0;
        }

        void clear() {
            roomCount = 0;
            doorCount = 0;
            taken = 0;
        }

        void become(House other) {
            System.arraycopy(other.weight, 0, weight, 0, ROOMS);
            System.arraycopy(other.wear, 0, wear, 0, DOORS);
            for (int k = 0; k < DOORS; k++) doors[k] = other.doors[k];
            roomCount = other.roomCount;
            doorCount = other.doorCount;
            light = other.light;
            sleep = other.sleep;
            keys = other.keys;
            taken = other.taken;
        }

        boolean lacksRoom(int room) {
            return room < 0 || room >= roomCount || room >= ROOMS;
        }

        boolean lacksDoor(int door) {
            return door < 0 || door >= doorCount || door >= DOORS;
        }

        /** The door of that number; null: there is no such one. */
        Door doorAt(int door) {
            return lacksDoor(door) ? null : doors[door];
        }

        void addRoom(int w) {
            if (roomCount < ROOMS) {
                weight[roomCount] = w;
                roomCount++;
            }
        }

        void addDoor(int sort, int from, int to, int n) {
            if (doorCount < DOORS) {
                doors[doorCount] = Door.of(sort, doorCount, from, to, n);
                wear[doorCount] = 0;
                doorCount++;
            }
        }

        int sortOf(int door) {
            Door d = doorAt(door);
            return d == null ? 0 : d.sort();
        }

        int numberOf(int door) {
            Door d = doorAt(door);
            return d == null ? 0 : d.n;
        }

        void changeDoor(int door, int sort, int n) {
            Door d = doorAt(door);
            if (d != null) doors[door] = Door.of(sort, d.number, d.from, d.to, n);
        }

        int doorsOf(int room) {
            int found = 0;
            for (int k = 0; k < doorCount; k++) {
                Door d = doorAt(k);
                if (d != null && d.leadsFrom(room)) found |= 1 << k;
            }
            return found;
        }

        int filledRooms() {
            int filled = 0;
            for (int r = 0; r < roomCount; r++) {
                if (weight[r] != 0) filled |= 1 << r;
            }
            return filled;
        }

        int weightOf(int set) {
            int all = 0;
            for (int r = 0; r < roomCount; r++) {
                if ((set >> r & 1) != 0) all += weight[r];
            }
            return all;
        }

        int weightOfAll() {
            return weightOf((1 << ROOMS) - 1);
        }

        int wearOfAll() {
            int all = 0;
            for (int k = 0; k < doorCount; k++) all += wear[k];
            return all;
        }
    }

    /** A house in which errands are gone, the ledger of the latest one, and what it came to. */
    private static final class Walk {
        final House house = new House();
        final Numbers ledger = new Numbers(LEDGER);
        final int[] opened = new int[DOORS];
        int openedCount, openBits;
        int room, noise, draught, keysUsed;
        int weight, finding;

        void go(int[] doors, int i, int n) {
            begin();
            for (int k = 0; k < n && finding == 0; k++) {
                int place = i + k;
                finding = place >= 0 && place < doors.length ? pass(doors[place]) : ASTRAY;
            }
            if (finding == 0) finding = take();
            if (finding != 0) ledger.add(400 + finding);
            for (int k = openedCount - 1; k >= 0; k--) ledger.add(200 + opened[k]);
        }

        /** The weight that was taken, or 1000 and the number of the finding. */
        int outcome() {
            return finding == 0 ? weight : 1000 + finding;
        }

        private void begin() {
            ledger.clear();
            openedCount = 0;
            openBits = 0;
            room = 0;
            noise = 0;
            draught = 0;
            keysUsed = 0;
            weight = 0;
            finding = 0;
        }

        private int pass(int door) {
            Door d = house.doorAt(door);
            if (d == null || !d.leadsFrom(room)) return ASTRAY;
            int hindrance = (openBits >> d.number & 1) != 0 ? 0 : open(d);
            if (hindrance == 0) room = d.beyond(room);
            return hindrance;
        }

        private int open(Door d) {
            if (house.lacksDoor(d.number) || openedCount >= opened.length) return ASTRAY;
            int wear = house.wear[d.number], key = d.keyBit();
            if ((house.keys & key) != key) return LOCKED;
            if (d.isBroken(wear)) return BROKEN;
            ledger.add(100 + d.number);
            opened[openedCount] = d.number;
            openedCount++;
            openBits |= 1 << d.number;
            keysUsed |= key;
            noise += d.loud(wear);
            draught += d.gap();
            house.wear[d.number] = wear + 1;
            if (noise > house.sleep) return WOKEN;
            return draught > house.light ? DARK : 0;
        }

        private int take() {
            if (house.lacksRoom(room) || house.weight[room] == 0) return EMPTY;
            weight = house.weight[room];
            house.weight[room] = 0;
            house.taken += weight;
            ledger.add(300 + room);
            return 0;
        }
    }

    /** The tape, and the house that is read from it; of faults the first one is kept, with its place. */
    private static final class Reader {
        final int[] tape = new int[TAPE];
        final House draft = new House();
        int length;
        int at, fault;

        boolean isFull() {
            return length >= TAPE;
        }

        int take(int letter) {
            if (!isFull()) {
                tape[length] = letter;
                length++;
            }
            return length;
        }

        /** Empties the tape; where there is a fault, its place is where reading stopped. */
        void read() {
            at = 0;
            fault = 0;
            draft.clear();
            readLaw();
            for (int k = 0; k < TAPE && fault == 0 && sees('r'); k++) readRoom();
            if (draft.roomCount < 2) fail(1);
            for (int k = 0; k < TAPE && fault == 0 && sortSeen() != 0; k++) readDoor();
            if (draft.doorCount < 1 || at < length) fail(1);
            length = 0;
        }

        private void readLaw() {
            readSign('h');
            draft.light = readNumber(1, MOST_LIGHT, -1);
            readSign(',');
            draft.sleep = readNumber(1, MOST_SLEEP, -1);
            readSign(',');
            draft.keys = readNumber(0, ALL_KEYS, -1);
            readSign(';');
        }

        private void readRoom() {
            if (draft.roomCount >= ROOMS) fail(3);
            readSign('r');
            int weight = readNumber(0, MOST_WEIGHT, -1);
            readSign(';');
            if (fault == 0) draft.addRoom(weight);
        }

        private void readDoor() {
            if (draft.doorCount >= DOORS) fail(3);
            int sort = sortSeen();
            readSign(signHere());
            int from = readNumber(0, draft.roomCount - 1, -1);
            readSign(',');
            int to = readNumber(0, draft.roomCount - 1, from);
            readSign(',');
            int n = readNumber(0, MOST_N, -1);
            readSign(';');
            if (fault == 0) draft.addDoor(sort, from, to, n);
        }

        private void fail(int number) {
            if (fault == 0) fault = number;
        }

        /** The byte at which reading stands; -1 at the end. */
        private int signHere() {
            return at < length ? tape[at] : -1;
        }

        private boolean sees(int sign) {
            return signHere() == sign;
        }

        /** The kind of door whose letter stands here; 0: none does. */
        private int sortSeen() {
            switch (signHere()) {
                case 'l': return 1;
                case 'b': return 2;
                case 'c': return 3;
                case 'k': return 4;
                case 's': return 5;
                default: return 0;
            }
        }

        private void readSign(int sign) {
            if (fault != 0) return;
            if (at < length && sees(sign)) at++;
            else fail(1);
        }

        private int figures() {
            int many = 0;
            for (int k = at; k < length && tape[k] >= '0' && tape[k] <= '9'; k++) many++;
            return many;
        }

        /** A number from least to most, but not the one that is barred. */
        private int readNumber(int least, int most, int barred) {
            if (fault != 0) return 0;
            int many = figures();
            if (many < 1 || many > 2) {
                fail(1);
                return 0;
            }
            int number = 0;
            for (int k = at; k < at + many; k++) number = number * 10 + tape[k] - '0';
            if (number < least || number > most || number == barred) fail(2);
            else at += many;
            return number;
        }
    }
}
