/** The moon, let by the room: the promises that it keeps are numbered in DOC.md. */
public final class MoonRooms {
    private static final int LOW = -1000000000;
    private static final int BEYOND = LOW - 1;
    private static final int NONE = LOW - 2;
    private static final int STATE = LOW - 3;
    private static final int FULL = LOW - 4;
    private static final int KIND = LOW - 5;

    private static final int CELLS = 24;
    private static final int ALL_CELLS = 0xFFFFFF;
    private static final int FIRST_COLUMN = 0x010101;
    private static final int LAST_COLUMN = 0x808080;
    private static final int LAST_NIGHT = 9999;
    private static final int PURSE_LIMIT = 9999;
    private static final int PURSE_SHIFT = 100000;
    private static final int FAR = 100;
    private static final int MOST_TENANTS = 6;
    private static final int MOST_BYTES = 50;
    private static final int MOST_NUMBERS = 40;
    private static final int MOST_WAITING = 20;
    private static final int SHEETS = 4;
    private static final int CLOUDS = 0;
    private static final int RENT = 1;

    private static final int TENANT = 0;
    private static final int POET = 1;
    private static final int WIDOWER = 2;
    private static final int BANKER = 3;
    private static final int SHARER = 4;
    private static final int GHOST = 5;
    private static final int AGENT = 6;
    private static final int[] ABOVE = {-1, TENANT, TENANT, TENANT, POET, WIDOWER, BANKER};

    private final House now = new House();
    private final House kept = new House();
    private final House thought = new House();
    private final Reader reader = new Reader();
    private final Speaker speaker = new Speaker();
    private final Wishes wishes = new Wishes();
    private final Sheet[] sheets = new Sheet[SHEETS];
    private final int[] errors = new int[6];
    private int images;

    public MoonRooms() {
        for (int i = 0; i < sheets.length; i++) {
            sheets[i] = new Sheet();
        }
    }

    // ---- the moon, tenants

    public int ofCell(int cell, int what) {
        if (isOutside(cell, 0, CELLS - 1)) {
            return fail(BEYOND);
        }
        switch (what) {
            case 0:
                return litBy(now.night % 16) >> cell & 1;
            case 1:
                return now.seenIn(now.night) >> cell & 1;
            case 2:
                return now.rentTogether(1 << cell);
            case 3:
                return now.holdersOf(1 << cell);
            default:
                return fail(BEYOND);
        }
    }

    public int lit(int phase) {
        return isOutside(phase, 0, 15) ? fail(BEYOND) : litBy(phase);
    }

    public int weather(int v) {
        if (isOutside(v, 0, 9)) {
            return fail(BEYOND);
        }
        int was = now.weather;
        now.weather = v;
        return was;
    }

    public int tenant(int km) {
        if (isNoKind(km)) {
            return fail(BEYOND);
        }
        int number = now.takeIn(km / 10, km % 10);
        return number < 0 ? fail(FULL) : number;
    }

    public int ofTenant(int tenant, int what) {
        Tenant t = now.find(tenant);
        if (t == null) {
            return fail(BEYOND);
        }
        switch (what) {
            case 0:
                return t.kind;
            case 1:
                return t.m;
            case 2:
                return t.lease;
            case 3:
                return t.purse + PURSE_SHIFT;
            case 4:
                return t.evicted ? 1 : 0;
            case 5:
                return t.looksIn(now.night) ? 1 : 0;
            case 6:
                return t.lease & now.seenIn(now.night);
            case 7:
                return t.owesBy(now.rentTogether(t.lease), now.sharersWith(tenant));
            default:
                return fail(BEYOND);
        }
    }

    public int become(int tenant, int km) {
        Tenant t = now.find(tenant);
        if (t == null || isNoKind(km)) {
            return fail(BEYOND);
        }
        int was = t.kind;
        t.kind = km / 10;
        t.m = km % 10;
        return was;
    }

    public int as(int tenant, int kind) {
        Tenant t = now.find(tenant);
        if (t == null || isOutside(kind, 0, ABOVE.length - 1)) {
            return fail(BEYOND);
        }
        return isUnder(t.kind, kind) ? t.m : fail(KIND);
    }

    public int lease(int tenant, int set) {
        Tenant t = now.find(tenant);
        if (t == null || isNoSet(set)) {
            return fail(BEYOND);
        }
        if (t.evicted) {
            return fail(STATE);
        }
        int was = t.lease;
        t.lease = set;
        return was;
    }

    public int purse(int tenant, int v) {
        Tenant t = now.find(tenant);
        if (t == null || isOutside(v, -PURSE_LIMIT, PURSE_LIMIT)) {
            return fail(BEYOND);
        }
        int was = t.purse;
        t.purse = v;
        return was + PURSE_SHIFT;
    }

    public int pardon(int tenant) {
        Tenant t = now.find(tenant);
        if (t == null) {
            return fail(BEYOND);
        }
        if (!t.evicted) {
            return fail(STATE);
        }
        t.evicted = false;
        t.purse = 0;
        return now.howManyEvicted();
    }

    // ---- texts

    public int feed(long word, int n) {
        if (isOutside(n, 1, 8)) {
            return fail(BEYOND);
        }
        if (now.tape.size + n > MOST_BYTES) {
            return fail(FULL);
        }
        for (int i = 0; i < n; i++) {
            now.tape.add((int) (word >> 8 * i & 255));
        }
        return now.tape.size;
    }

    public int text(int use) {
        if (isNoUse(use)) {
            return fail(BEYOND);
        }
        int fault = reader.read(now.tape, use);
        now.tape.empty();
        if (fault >= 0) {
            return -10 - fault;
        }
        now.lawOf(use).copyFrom(reader.code);
        return 1;
    }

    public int law(int use, int a, int b, int c) {
        if (isNoUse(use)) {
            return fail(BEYOND);
        }
        return now.lawOf(use).rule(a, b, c);
    }

    // ---- nights

    public int nights(int n) {
        if (isOutside(n, 1, FAR)) {
            return fail(BEYOND);
        }
        if (now.night + n > LAST_NIGHT) {
            return fail(STATE);
        }
        now.passNights(n);
        return now.howManyEvicted();
    }

    public int loose(int n) {
        if (isOutside(n, 1, 40)) {
            return fail(BEYOND);
        }
        if (now.night + n > LAST_NIGHT) {
            return fail(STATE);
        }
        for (int i = 0; i < n; i++) {
            now.drawNight();
            now.passNights(1);
        }
        return now.howManyEvicted();
    }

    // ---- what would be

    public int then(int n, int tenant, int what) {
        if (isOutside(n, 0, FAR) || isOutside(what, 0, 1) || now.find(tenant) == null) {
            return fail(BEYOND);
        }
        thought.copyFrom(now);
        thought.passNights(n);
        Tenant t = thought.find(tenant);
        if (t == null) {
            return fail(BEYOND);
        }
        return what == 0 ? t.purse + PURSE_SHIFT : t.lease;
    }

    public int often(int tenant, int n) {
        Tenant t = now.find(tenant);
        if (t == null || isOutside(n, 1, FAR)) {
            return fail(BEYOND);
        }
        int times = 0;
        for (int i = 0; i < n; i++) {
            int night = now.night + i;
            if (t.looksIn(night) && (t.lease & now.seenIn(night)) != 0) {
                times++;
            }
        }
        return times;
    }

    public int whole(int tenant) {
        Tenant t = now.find(tenant);
        if (t == null) {
            return fail(BEYOND);
        }
        if (t.lease == 0) {
            return fail(STATE);
        }
        for (int i = 0; i <= FAR; i++) {
            if ((t.lease & ~now.seenIn(now.night + i)) == 0) {
                return i;
            }
        }
        return fail(NONE);
    }

    public int stays(int tenant) {
        Tenant here = now.find(tenant);
        if (here == null) {
            return fail(BEYOND);
        }
        if (here.evicted) {
            return fail(STATE);
        }
        thought.copyFrom(now);
        for (int i = 1; i <= FAR; i++) {
            thought.passNights(1);
            Tenant t = thought.find(tenant);
            if (t != null && t.evicted) {
                return i;
            }
        }
        return fail(NONE);
    }

    public int clash() {
        int pairs = 0;
        for (int i = 0; i < now.tenants; i++) {
            pairs += Integer.bitCount(now.clashersWith(i));
        }
        // each pair was found from both of its sides
        return pairs / 2;
    }

    public int least(int what) {
        if (isOutside(what, 0, 1)) {
            return fail(BEYOND);
        }
        int set = now.leastToGiveUp();
        return what == 0 ? Integer.bitCount(set) : set;
    }

    public int beside(int tenant) {
        Tenant t = now.find(tenant);
        if (t == null) {
            return fail(BEYOND);
        }
        return besideCells(t.lease) & now.heldByOthers(tenant) & ~t.lease;
    }

    public int rooms(int sheet, int what) {
        Sheet s = findSheet(sheet);
        if (s == null || isOutside(what, -1, now.tenants - 1)) {
            return fail(BEYOND);
        }
        if (s.bits == 0 || s.row.size != now.tenants) {
            return fail(NONE);
        }
        for (int i = 0; i < s.row.size; i++) {
            if (isNoSet(s.row.get(i))) {
                return fail(NONE);
            }
        }
        wishes.sets.copyFrom(s.row);
        return what < 0 ? wishes.mostFrom(0, 0) : wishes.roomOf(what);
    }

    public int falls(int phase, int d) {
        if (isOutside(phase, 0, 15) || isOutside(d, 0, 6)) {
            return fail(BEYOND);
        }
        int behind = 0;
        // 16 and 7 share no divisor: one of any 112 nights fits
        while (behind < 111 && ((now.night + behind) % 16 != phase || (now.night + behind) % 7 != d)) {
            behind++;
        }
        return behind;
    }

    public int was(int sheet) {
        Sheet s = findSheet(sheet);
        if (s == null) {
            return fail(BEYOND);
        }
        if (s.bits == 0) {
            return fail(NONE);
        }
        int cells = ALL_CELLS;
        for (int i = 0; i < s.row.size; i++) {
            int looked = s.row.get(i);
            if (isOutside(looked, 0, 1)) {
                return fail(NONE);
            }
            int seen = now.seenIn(now.night + i);
            cells &= looked == 1 ? seen : ~seen;
        }
        return cells;
    }

    public int dear(int v) {
        if (isOutside(v, 0, 99)) {
            return fail(BEYOND);
        }
        int held = now.heldByOthers(-1);
        int dearest = -1;
        int cell = -1;
        for (int i = 0; i < CELLS; i++) {
            int rent = now.rentTogether(1 << i);
            if ((held >> i & 1) == 0 && rent <= v && rent > dearest) {
                dearest = rent;
                cell = i;
            }
        }
        return cell < 0 ? fail(NONE) : cell;
    }

    // ---- draws, voices, sheets, images, what is told

    public int seed(int v) {
        int was = now.z;
        now.z = v;
        return was;
    }

    public int voice(int tenant, int act, int x) {
        Tenant t = now.find(tenant);
        if (t == null || isOutside(act, 0, 3)) {
            return fail(BEYOND);
        }
        return speaker.speak(t, tenant, act, x);
    }

    public int trace(int i) {
        return speaker.bodies.has(i) ? speaker.bodies.get(i) : fail(NONE);
    }

    public int sheet(int sheet, int bits, int n) {
        Sheet s = findSheet(sheet);
        if (s == null || bits != 0 && bits != 8 && bits != 16 && bits != 32) {
            return fail(BEYOND);
        }
        if (bits != 0 && n < 0) {
            return fail(STATE);
        }
        if (bits != 0 && n > MOST_NUMBERS) {
            return fail(BEYOND);
        }
        s.bits = bits;
        s.row.fillWithNone(bits == 0 ? 0 : n);
        return 1;
    }

    public int put(int sheet, int i, int v) {
        Sheet s = findSheet(sheet);
        if (s == null) {
            return fail(BEYOND);
        }
        if (s.bits == 0) {
            return fail(NONE);
        }
        if (!s.row.has(i)) {
            return fail(BEYOND);
        }
        s.row.set(i, s.lowestBits(v));
        return 1;
    }

    public int move(int sheet, int i, int other, int j, int n) {
        Sheet from = findSheet(sheet);
        Sheet to = findSheet(other);
        if (from == null || to == null) {
            return fail(BEYOND);
        }
        if (from.bits == 0 || to.bits == 0) {
            return fail(NONE);
        }
        if (from.bits != to.bits) {
            return fail(KIND);
        }
        return to.row.takeFrom(from.row, i, j, n) ? n : fail(BEYOND);
    }

    public int leases(int sheet) {
        Sheet s = findSheet(sheet);
        if (s == null) {
            return fail(BEYOND);
        }
        if (s.bits == 0) {
            return fail(NONE);
        }
        for (int i = 0; i < s.row.size; i++) {
            Tenant t = now.find(i);
            int set = s.row.get(i);
            if (isNoSet(set) || t == null || t.evicted) {
                return i;
            }
            t.lease = set;
        }
        return s.row.size;
    }

    public int judge(int sheet) {
        Sheet s = findSheet(sheet);
        if (s == null) {
            return fail(BEYOND);
        }
        if (s.bits == 0) {
            return fail(NONE);
        }
        int both = Math.min(s.row.size, now.tenants);
        for (int i = 0; i < both; i++) {
            Tenant t = now.find(i);
            if (t == null || t.purse != s.row.get(i)) {
                return i;
            }
        }
        return s.row.size == now.tenants ? -1 : both;
    }

    public int image() {
        kept.copyFrom(now);
        images++;
        return images;
    }

    public int restore() {
        if (images == 0) {
            return fail(NONE);
        }
        now.copyFrom(kept);
        return now.night;
    }

    public int tell(int v) {
        return now.waiting.add(v) ? now.waiting.size : fail(FULL);
    }

    public int check() {
        int answer = 0;
        for (int i = 0; i < now.waiting.size && answer == 0; i++) {
            if (now.waiting.get(i) != Integer.bitCount(now.seenIn(now.night + i))) {
                answer = 1 + i;
            }
        }
        now.waiting.empty();
        return answer;
    }

    public int count(int what) {
        switch (what) {
            case 0:
                return now.tenants;
            case 1:
                return now.night;
            case 2:
                return now.night % 16;
            case 3:
                return now.weather;
            case 4:
                return Integer.bitCount(now.heldByOthers(-1));
            case 5:
                return Integer.bitCount(now.seenIn(now.night));
            case 6:
                return now.howManyEvicted();
            case 7:
                return now.tape.size;
            case 8:
                return now.waiting.size;
            case 9:
                return speaker.bodies.size;
            case 10:
                return now.z;
            default:
                return fail(BEYOND);
        }
    }

    public int told(int k) {
        if (isOutside(k, 1, errors.length - 1)) {
            return fail(BEYOND);
        }
        return errors[k];
    }

    // ---- what several acts ask

    private int fail(int error) {
        int k = LOW - error;
        if (k >= 0 && k < errors.length) {
            errors[k]++;
        }
        return error;
    }

    private Sheet findSheet(int i) {
        return i < 0 || i >= sheets.length ? null : sheets[i];
    }

    private static boolean isOutside(int v, int least, int most) {
        return v < least || v > most;
    }

    private static boolean isNoKind(int km) {
        return km < 0 || km >= 10 * ABOVE.length;
    }

    private static boolean isNoUse(int use) {
        return use != CLOUDS && use != RENT;
    }

    private static boolean isNoSet(int set) {
        return set < 0 || set > ALL_CELLS;
    }

    private static boolean isUnder(int kind, int other) {
        int k = kind;
        for (int i = 0; i < ABOVE.length && k >= 0 && k < ABOVE.length; i++) {
            if (k == other) {
                return true;
            }
            k = ABOVE[k];
        }
        return false;
    }

    private static int litBy(int phase) {
        int columns = phase <= 8 ? 255 << 8 - phase & 255 : 255 >> phase - 8;
        // one column's bit stands once in each of the three rows
        return columns * FIRST_COLUMN;
    }

    private static int besideCells(int set) {
        int northAndSouth = set >> 8 | set << 8 & ALL_CELLS;
        int eastAndWest = (set & ~LAST_COLUMN) << 1 | (set & ~FIRST_COLUMN) >> 1;
        return northAndSouth | eastAndWest;
    }

    /** Numbers in a row that has room for so many and no more. */
    private static final class Row {
        private final int[] numbers;
        private int size;

        Row(int room) {
            numbers = new int[Math.max(0, room)];
        }

        boolean has(int i) {
            return i >= 0 && i < size && i < numbers.length;
        }

        int get(int i) {
            return i >= 0 && i < size && i < numbers.length ? numbers[i] : 0;
        }

        void set(int i, int v) {
            if (has(i)) {
                numbers[i] = v;
            }
        }

        boolean add(int v) {
            if (size < 0 || size >= numbers.length) {
                return false;
            }
            numbers[size] = v;
            size++;
            return true;
        }

        void empty() {
            size = 0;
        }

        void fillWithNone(int n) {
            size = Math.max(0, Math.min(n, numbers.length));
            for (int i = 0; i < numbers.length; i++) {
                numbers[i] = 0;
            }
        }

        void copyFrom(Row other) {
            size = Math.max(0, Math.min(other.size, numbers.length));
            takeFrom(other, 0, 0, size);
        }

        boolean takeFrom(Row other, int i, int j, int n) {
            // taken off the sizes, as sums of such numbers could wrap
            if (n < 0 || i < 0 || j < 0 || n > other.size - i || n > size - j) {
                return false;
            }
            System.arraycopy(other.numbers, i, numbers, j, n);
            return true;
        }
    }

    /** A row of 8, 16 or 32 bits; of 0 bits while it is missing. */
    private static final class Sheet {
        private final Row row = new Row(MOST_NUMBERS);
        private int bits;

        int lowestBits(int v) {
            if (bits == 8) {
                return (byte) v;
            }
            return bits == 16 ? (short) v : v;
        }
    }

    /** One tenant, with what its kind looks at, earns and owes. */
    private static final class Tenant {
        private int kind;
        private int m;
        private int lease;
        private int purse;
        private boolean evicted;

        void copyFrom(Tenant other) {
            kind = other.kind;
            m = other.m;
            lease = other.lease;
            purse = other.purse;
            evicted = other.evicted;
        }

        boolean looksIn(int night) {
            switch (kind) {
                case POET:
                case SHARER:
                    return m > 2 || night % 3 == m;
                case WIDOWER:
                    return (lease & litBy(night % 16)) != 0;
                case GHOST:
                    return false;
                case BANKER:
                case AGENT:
                    return night % 2 == 0;
                default:
                    return true;
            }
        }

        void earn(int night, int seen) {
            int cells = lease & seen;
            if (cells == 0 || !looksIn(night)) {
                return;
            }
            purse = Math.min(PURSE_LIMIT, purse + wages(Integer.bitCount(cells)));
        }

        private int wages(int cells) {
            switch (kind) {
                case POET:
                case SHARER:
                    return 9;
                case BANKER:
                case AGENT:
                    return 2 * cells;
                case GHOST:
                    return 0;
                default:
                    return 5;
            }
        }

        int owesBy(int v, int sharers) {
            switch (kind) {
                case POET:
                    return v / 2;
                case SHARER:
                    return v / 2 / Math.max(1, 1 + sharers);
                case WIDOWER:
                case GHOST:
                    return v + m;
                case BANKER:
                    return v - v / 10;
                case AGENT:
                    return Math.max(0, v - v / 10 - m);
                default:
                    return v;
            }
        }

        void pay(int owed) {
            purse = Math.max(-PURSE_LIMIT, purse - owed);
            if (purse < 0) {
                evicted = true;
                lease = 0;
            }
        }
    }

    /** All that an image keeps, and that a thought runs ahead with. */
    private static final class House {
        private int night;
        private int weather;
        private int z = 1;
        private int tenants;
        private final Tenant[] all = new Tenant[MOST_TENANTS];
        private final Row tape = new Row(MOST_BYTES);
        private final Row waiting = new Row(MOST_WAITING);
        private final Law clouds = new Law(CLOUDS);
        private final Law rents = new Law(RENT);

        House() {
            for (int i = 0; i < all.length; i++) {
                all[i] = new Tenant();
            }
        }

        void copyFrom(House other) {
            night = other.night;
            weather = other.weather;
            z = other.z;
            tenants = other.tenants;
            for (int i = 0; i < tenants; i++) {
                Tenant mine = find(i);
                Tenant its = other.find(i);
                if (mine != null && its != null) {
                    mine.copyFrom(its);
                }
            }
            tape.copyFrom(other.tape);
            waiting.copyFrom(other.waiting);
            clouds.copyFrom(other.clouds.code);
            rents.copyFrom(other.rents.code);
        }

        Tenant find(int i) {
            return i < 0 || i >= tenants || i >= all.length ? null : all[i];
        }

        /** The new one's number; -1 if there is no room. */
        int takeIn(int kind, int m) {
            Tenant t = tenants < 0 || tenants >= all.length ? null : all[tenants];
            if (t == null) {
                return -1;
            }
            t.kind = kind;
            t.m = m;
            // an image restored may have left an older tenant here
            t.lease = 0;
            t.purse = 0;
            t.evicted = false;
            tenants++;
            return tenants - 1;
        }

        Law lawOf(int use) {
            return use == CLOUDS ? clouds : rents;
        }

        int seenIn(int someNight) {
            int phase = someNight % 16;
            return clouds.rule(someNight, phase, weather) != 0 ? 0 : litBy(phase);
        }

        /** Who holds a cell of a set of cells, as a set. */
        int holdersOf(int cells) {
            int holders = 0;
            for (int i = 0; i < tenants; i++) {
                Tenant t = find(i);
                if (t != null && (t.lease & cells) != 0) {
                    holders |= 1 << i;
                }
            }
            return holders;
        }

        /** The cells that all but one hold; with -1, that all hold. */
        int heldByOthers(int tenant) {
            int held = 0;
            for (int i = 0; i < tenants; i++) {
                Tenant t = find(i);
                if (t != null && i != tenant) {
                    held |= t.lease;
                }
            }
            return held;
        }

        int sharersWith(int tenant) {
            Tenant t = find(tenant);
            if (t == null) {
                return 0;
            }
            return Integer.bitCount(holdersOf(t.lease) & ~(1 << tenant));
        }

        int howManyEvicted() {
            int evicted = 0;
            for (int i = 0; i < tenants; i++) {
                Tenant t = find(i);
                if (t != null && t.evicted) {
                    evicted++;
                }
            }
            return evicted;
        }

        int rentTogether(int cells) {
            int rent = 0;
            for (int i = 0; i < CELLS; i++) {
                if ((cells >> i & 1) != 0) {
                    rent += rents.rule(i / 8, i % 8, Integer.bitCount(holdersOf(1 << i)));
                }
            }
            return rent;
        }

        void passNights(int n) {
            for (int i = 0; i < n; i++) {
                earnAll();
                night++;
                if (night % 4 == 0) {
                    payAll();
                }
            }
        }

        private void earnAll() {
            int seen = seenIn(night);
            for (int i = 0; i < tenants; i++) {
                Tenant t = find(i);
                if (t != null && !t.evicted) {
                    t.earn(night, seen);
                }
            }
        }

        private void payAll() {
            for (int i = 0; i < tenants; i++) {
                Tenant t = find(i);
                if (t != null && !t.evicted) {
                    // asked one by one: who was evicted just ahead holds nothing any more
                    t.pay(t.owesBy(rentTogether(t.lease), sharersWith(i)));
                }
            }
        }

        private int draw() {
            z = z * 1103515245 + 12345;
            return z >>> 8;
        }

        /** What the draws do ahead of a night. */
        void drawNight() {
            weather = draw() % 10;
            if (tenants < 1) {
                return;
            }
            int who = draw() % tenants;
            int cell = draw() % CELLS;
            Tenant t = find(who);
            if (t != null && !t.evicted) {
                t.lease |= 1 << cell;
            }
        }

        /** The tenants who hold a cell with one, but for a sharer's sharers, as a set. */
        int clashersWith(int tenant) {
            Tenant t = find(tenant);
            if (t == null) {
                return 0;
            }
            int clashers = 0;
            for (int i = 0; i < tenants; i++) {
                Tenant other = find(i);
                if (other != null && i != tenant && (t.lease & other.lease) != 0
                        && !(isUnder(t.kind, SHARER) && isUnder(other.kind, SHARER))) {
                    clashers |= 1 << i;
                }
            }
            return clashers;
        }

        int leastToGiveUp() {
            int best = (1 << tenants) - 1;
            for (int set = 0; set < 1 << tenants; set++) {
                if (Integer.bitCount(set) < Integer.bitCount(best) && isPeaceWithout(set)) {
                    best = set;
                }
            }
            return best;
        }

        private boolean isPeaceWithout(int set) {
            for (int i = 0; i < tenants; i++) {
                if ((set >> i & 1) == 0 && (clashersWith(i) & ~set) != 0) {
                    return false;
                }
            }
            return true;
        }
    }

    /** What a text says, as steps: numbers from 0 on, names below 0, signs as -sign. */
    private static final class Law {
        private static final int FIRST_NAME = -1;
        private static final int LAST_NAME = -3;

        private final int use;
        private final Row code = new Row(MOST_BYTES);
        private final int[] stack = new int[MOST_BYTES];

        Law(int use) {
            this.use = use;
        }

        void copyFrom(Row steps) {
            code.copyFrom(steps);
        }

        int rule(int a, int b, int c) {
            if (use == CLOUDS) {
                return code.size == 0 ? 0 : workOut(a, b, c);
            }
            int rent = code.size == 0 ? 1 + b / 4 : workOut(a, b, c);
            return Math.max(0, Math.min(99, rent));
        }

        private int workOut(int a, int b, int c) {
            int top = 0;
            for (int i = 0; i < code.size; i++) {
                int step = code.get(i);
                if (step >= LAST_NAME) {
                    if (top >= stack.length) {
                        return 0;
                    }
                    stack[top] = valueOf(step, a, b, c);
                    top++;
                } else if (step == -'!') {
                    if (top < 1) {
                        return 0;
                    }
                    stack[top - 1] = asInt(stack[top - 1] == 0);
                } else {
                    if (top < 2) {
                        return 0;
                    }
                    top--;
                    stack[top - 1] = join(-step, stack[top - 1], stack[top]);
                }
            }
            return top < 1 ? 0 : stack[top - 1];
        }

        private static int valueOf(int step, int a, int b, int c) {
            if (step >= 0) {
                return step;
            }
            if (step == FIRST_NAME) {
                return a;
            }
            return step == LAST_NAME ? c : b;
        }

        private static int join(int sign, int left, int right) {
            switch (sign) {
                case '|':
                    return left != 0 || right != 0 ? 1 : 0;
                case '&':
                    return left != 0 && right != 0 ? 1 : 0;
                case '<':
                    return left < right ? 1 : 0;
                case '=':
                    return left == right ? 1 : 0;
                case '>':
                    return left > right ? 1 : 0;
                case '+':
                    return left + right;
                case '-':
                    return left - right;
                case '*':
                    return left * right;
                case '/':
                    return right == 0 ? 0 : left / right;
                case '%':
                    return right == 0 ? 0 : left % right;
                default:
                    return 0;
            }
        }

        private static int asInt(boolean truth) {
            return truth ? 1 : 0;
        }
    }

    /** Reads the tape into the steps of a law. */
    private static final class Reader {
        private static final int COMPARED = 2;
        private static final int LEVELS = 5;
        private static final int MOST_OPEN = 5;
        private static final int MOST_DIGITS = 4;
        private static final int END = -1;

        private final Row tape = new Row(MOST_BYTES);
        private final Row code = new Row(MOST_BYTES);
        private int use;
        private int place;

        /** The fault's place; -1 if there is none. */
        int read(Row bytes, int forUse) {
            tape.copyFrom(bytes);
            code.empty();
            use = forUse;
            place = 0;
            boolean good = readLevel(0, 0);
            return good && place >= tape.size ? -1 : place;
        }

        private int here() {
            return tape.has(place) ? tape.get(place) : END;
        }

        /** Levels from | (0) to * (4) read what binds closer between their signs. */
        private boolean readLevel(int level, int open) {
            if (level >= LEVELS) {
                return readSingle(open);
            }
            boolean good = readLevel(level + 1, open);
            for (int i = 0; i < MOST_BYTES && good && levelOf(here()) == level; i++) {
                int sign = here();
                place++;
                good = readLevel(level + 1, open);
                code.add(-sign);
                if (level == COMPARED) {
                    return good;
                }
            }
            return good;
        }

        private boolean readSingle(int open) {
            int first = here();
            if (isDigit(first)) {
                readNumber();
                return true;
            }
            int name = nameOf(first);
            if (name != 0) {
                place++;
                code.add(name);
                return true;
            }
            if (first != '!' && first != '(' || open >= MOST_OPEN) {
                return false;
            }
            place++;
            return first == '!' ? readNot(open + 1) : readClosed(open + 1);
        }

        private boolean readNot(int open) {
            boolean good = readSingle(open);
            code.add(-'!');
            return good;
        }

        private boolean readClosed(int open) {
            if (!readLevel(0, open) || here() != ')') {
                return false;
            }
            place++;
            return true;
        }

        private void readNumber() {
            int number = 0;
            for (int i = 0; i < MOST_DIGITS && isDigit(here()); i++) {
                number = number * 10 + here() - '0';
                place++;
            }
            code.add(number);
        }

        private int nameOf(int sign) {
            switch (sign) {
                case 'n':
                    return use == CLOUDS ? -1 : 0;
                case 'p':
                    return use == CLOUDS ? -2 : 0;
                case 'w':
                    return use == CLOUDS ? -3 : 0;
                case 'r':
                    return use == RENT ? -1 : 0;
                case 'c':
                    return use == RENT ? -2 : 0;
                case 'q':
                    return use == RENT ? -3 : 0;
                default:
                    return 0;
            }
        }

        private static boolean isDigit(int sign) {
            return sign >= '0' && sign <= '9';
        }

        private static int levelOf(int sign) {
            switch (sign) {
                case '|':
                    return 0;
                case '&':
                    return 1;
                case '<':
                case '=':
                case '>':
                    return COMPARED;
                case '+':
                case '-':
                    return 3;
                case '*':
                case '/':
                case '%':
                    return 4;
                default:
                    return END;
            }
        }
    }

    /** The voices of the kinds, and the trace of the latest one. */
    private static final class Speaker {
        private static final int LOOKS = 0;
        private static final int PAYS = 1;
        private static final int HOLDS = 2;
        private static final int TELLS = 3;
        private static final int DEEPEST = 30;
        // for each kind its bodies of looks, pays, holds, tells; 0: it has none of its own
        private static final int[] BODIES = {
            10, 11, 12, 13,
            20, 0, 0, 0,
            0, 0, 30, 0,
            0, 40, 0, 0,
            0, 0, 0, 50,
            0, 0, 60, 61,
            0, 70, 0, 0};

        private final Row bodies = new Row(MOST_NUMBERS);
        private int kind;
        private int number;
        private int m;

        int speak(Tenant t, int n, int act, int x) {
            bodies.empty();
            kind = t.kind;
            m = t.m;
            number = n;
            return say(kind, act, x, 0);
        }

        private static int bodyOf(int from, int act) {
            int k = from;
            for (int i = 0; i < ABOVE.length && k >= 0 && k < ABOVE.length; i++) {
                int at = 4 * k + act;
                int body = at >= 0 && at < BODIES.length ? BODIES[at] : 0;
                if (body != 0) {
                    return body;
                }
                k = ABOVE[k];
            }
            return 0;
        }

        /** The act's body of a kind or the next one above: with this.kind the own, else super's. */
        private int say(int from, int act, int x, int depth) {
            if (depth > DEEPEST) {
                return 0;
            }
            int body = bodyOf(from, act);
            int d = depth + 1;
            bodies.add(body);
            switch (body) {
                case 10:
                    return x + number;
                case 11:
                    return say(kind, LOOKS, x, d) * 2;
                case 12:
                    return x - m;
                case 13:
                    return say(kind, PAYS, x, d) ^ say(kind, HOLDS, x, d);
                case 20:
                    return say(TENANT, LOOKS, x, d) * 3;
                case 30:
                    return -say(TENANT, HOLDS, x, d);
                case 40:
                    return say(TENANT, PAYS, x, d) - say(kind, HOLDS, 1, d);
                case 50:
                    return say(POET, TELLS, x, d) - say(kind, LOOKS, 2, d);
                case 60:
                    return say(WIDOWER, HOLDS, x, d) ^ number;
                case 61:
                    return say(kind, PAYS, x, d) - say(WIDOWER, TELLS, x, d);
                case 70:
                    return say(BANKER, PAYS, x + 1, d);
                default:
                    return 0;
            }
        }
    }

    /** Who gets which room of those that he wishes. */
    private static final class Wishes {
        private final Row sets = new Row(MOST_TENANTS);

        /** How many from one on, at most, can have a cell that isn't taken: by Hall, as many
            as there are, less what the neediest group of them lacks. */
        int mostFrom(int from, int taken) {
            int many = Math.max(0, sets.size - from);
            int most = many;
            for (int group = 0; group < 1 << many; group++) {
                int cells = wishedBy(group << from) & ~taken;
                most = Math.min(most, many - Integer.bitCount(group) + Integer.bitCount(cells));
            }
            return most;
        }

        private int wishedBy(int group) {
            int cells = 0;
            for (int i = 0; i < sets.size; i++) {
                if ((group >> i & 1) != 0) {
                    cells |= sets.get(i);
                }
            }
            return cells;
        }

        int roomOf(int tenant) {
            int taken = 0;
            int cell = -1;
            for (int i = 0; i <= tenant && i < sets.size; i++) {
                cell = firstRoom(i, taken);
                if (cell >= 0) {
                    taken |= 1 << cell;
                }
            }
            return cell;
        }

        /** The least cell that leaves as many rooms as could be had; -1: none does. */
        private int firstRoom(int tenant, int taken) {
            int most = mostFrom(tenant, taken);
            int free = sets.get(tenant) & ~taken;
            for (int cell = 0; cell < CELLS; cell++) {
                if ((free >> cell & 1) != 0 && 1 + mostFrom(tenant + 1, taken | 1 << cell) == most) {
                    return cell;
                }
            }
            return -1;
        }
    }
}
