/**
 * A well that is told things. What each call does, and in which order it asks for its ERRORS, is
 * said by the promises of ../shared/DOC.md; the words of that document are the words used here.
 */
public final class WellTold {
    private static final int LOW = -1000000000;
    private static final int BEYOND = 1;
    private static final int NONE = 2;
    private static final int STATE = 3;
    private static final int FULL = 4;
    private static final int KIND = 5;

    private static final int MOST_WELLS = 8;
    private static final int MOST_WAYS = 8;
    private static final int MOST_SAYINGS = 8;
    private static final int MOST_FOLK = 6;
    private static final int MOST_TAPE = 50;
    private static final int MOST_WAITING = 20;
    private static final int MOST_TRACE = 40;
    private static final int MOST_NUMBERS = 40;
    private static final int MOST_SHEETS = 4;
    private static final int LAST_HOUR = 9999;
    private static final int FURTHEST_THOUGHT = 99;

    private static final int SAYING = 0;
    private static final int SECRET = 1;
    private static final int LIE = 2;
    private static final int NAME = 3;
    private static final int LOVE = 4;
    private static final int QUARREL = 5;
    private static final int OATH = 6;

    private final Village now = new Village();
    private final Village kept = new Village();
    private final Reader reader = new Reader();
    private final Voices voices = new Voices();
    private final Sheet[] sheets = new Sheet[MOST_SHEETS];
    private final Row moved = new Row(MOST_NUMBERS);
    private final Row errors = new Row(KIND + 1);
    private int images = 0;

    public WellTold() {
        for (int i = 0; i < sheets.length; i++) {
            sheets[i] = new Sheet();
        }
        errors.zeros(KIND + 1);
    }

    // ---- wells, ways, sayings, folk

    public int wells(int n) {
        if (!within(n, 2, MOST_WELLS)) {
            return error(BEYOND);
        }
        if (now.ways.size() > 0 || now.sayings.size() > 0 || now.folk.size() > 0) {
            return error(STATE);
        }
        int old = now.wellCount;
        now.wellCount = n;
        return old;
    }

    public int way(int from, int to, int hours) {
        if (!now.isWell(from) || !now.isWell(to) || from == to || !within(hours, 1, 9)) {
            return error(BEYOND);
        }
        if (now.ways.size() >= MOST_WAYS) {
            return error(FULL);
        }
        now.ways.add(from, to, hours);
        return now.ways.size() - 1;
    }

    public int ofWay(int way, int what) {
        if (!now.ways.has(way)) {
            return error(BEYOND);
        }
        switch (what) {
            case 0: return now.ways.starts.get(way);
            case 1: return now.ways.ends.get(way);
            case 2: return now.ways.lengths.get(way);
            case 3: return inSet(now.ways.stopped, way);
            default: return error(BEYOND);
        }
    }

    public int stop(int way, int v) {
        if (!now.ways.has(way) || !within(v, 0, 1)) {
            return error(BEYOND);
        }
        int old = inSet(now.ways.stopped, way);
        now.ways.stopped = withMember(now.ways.stopped, way, v == 1);
        return old;
    }

    public int rain(int v) {
        if (!within(v, 0, 9)) {
            return error(BEYOND);
        }
        int old = now.rain;
        now.rain = v;
        return old;
    }

    public int call(int km, int well, int strength) {
        if (!isKindAndDigit(km) || !now.isWell(well) || !within(strength, 0, 99)) {
            return error(BEYOND);
        }
        if (now.sayings.size() >= MOST_SAYINGS) {
            return error(FULL);
        }
        now.sayings.add(km / 10, km % 10, well, strength);
        return now.sayings.size() - 1;
    }

    public int ofSaying(int saying, int what) {
        if (!now.sayings.has(saying)) {
            return error(BEYOND);
        }
        Saying s = now.thought(saying);
        switch (what) {
            case 0: return s.kind;
            case 1: return s.digit;
            case 2: return s.well;
            case 3: return s.strength;
            case 4: return s.left;
            case 5: return now.weakeningOf(s, now.rain);
            case 6: return now.nextWayOf(s, now.ways.stopped);
            case 7: return s.knowers;
            default: return error(BEYOND);
        }
    }

    public int change(int saying, int what, int v) {
        if (!now.sayings.has(saying) || !within(what, 0, 1)) {
            return error(BEYOND);
        }
        if (what == 0 ? !now.isWell(v) : !within(v, 0, 99)) {
            return error(BEYOND);
        }
        Row changed = what == 0 ? now.sayings.wells : now.sayings.strengths;
        int old = changed.get(saying);
        changed.set(saying, v);
        if (what == 0) {
            now.sayings.lefts.set(saying, 0);
        }
        return old;
    }

    public int become(int saying, int km) {
        if (!now.sayings.has(saying) || !isKindAndDigit(km)) {
            return error(BEYOND);
        }
        int old = now.sayings.kinds.get(saying);
        now.sayings.kinds.set(saying, km / 10);
        now.sayings.digits.set(saying, km % 10);
        return old;
    }

    public int as(int saying, int kind) {
        if (!now.sayings.has(saying) || !within(kind, SAYING, OATH)) {
            return error(BEYOND);
        }
        if (!Voices.isUnder(now.sayings.kinds.get(saying), kind)) {
            return error(KIND);
        }
        return now.sayings.digits.get(saying);
    }

    public int folk(int well, int palate) {
        if (!now.isWell(well) || !within(palate, 0, 99)) {
            return error(BEYOND);
        }
        if (now.folk.size() >= MOST_FOLK) {
            return error(FULL);
        }
        now.folk.add(well, palate);
        return now.folk.size() - 1;
    }

    public int ofFolk(int one, int what) {
        if (!now.folk.has(one) || !within(what, 0, 2)) {
            return error(BEYOND);
        }
        return now.ofOne(one, what);
    }

    public int drink(int one, int what, int v) {
        if (!now.folk.has(one) || !within(what, 0, 2) || !mayBeOfOne(what, v)) {
            return error(BEYOND);
        }
        int old = now.ofOne(one, what);
        if (what == 0) {
            now.folk.wells.set(one, v);
        } else if (what == 1) {
            now.folk.palates.set(one, v);
        } else {
            now.sayings.learnt(one, v);
        }
        return old;
    }

    // ---- texts

    public int feed(long word, int n) {
        if (!within(n, 1, 8)) {
            return error(BEYOND);
        }
        if (now.tape.size() + n > MOST_TAPE) {
            return error(FULL);
        }
        for (int i = 0; i < n; i++) {
            now.tape.add((int) (word >>> (8 * i)) & 255);
        }
        return now.tape.size();
    }

    public int text(int use) {
        if (!within(use, 0, 1)) {
            return error(BEYOND);
        }
        int fault = reader.faultOf(now.tape, use == 0 ? "smr" : "sph");
        now.tape.clear();
        if (fault >= 0) {
            return -10 - fault;
        }
        now.textOf(use).codes.copyFrom(reader.codes);
        return 1;
    }

    public int law(int use, int a, int b, int c) {
        if (!within(use, 0, 1)) {
            return error(BEYOND);
        }
        return now.textOf(use).gives(a, b, c);
    }

    // ---- hours

    public int hours(int n) {
        if (!within(n, 1, 99)) {
            return error(BEYOND);
        }
        if (now.hour + n > LAST_HOUR) {
            return error(STATE);
        }
        for (int i = 0; i < n; i++) {
            now.passHour();
        }
        return Integer.bitCount(now.sayings.allKnowers());
    }

    public int loose(int n) {
        if (!within(n, 1, 40)) {
            return error(BEYOND);
        }
        if (now.hour + n > LAST_HOUR) {
            return error(STATE);
        }
        for (int i = 0; i < n; i++) {
            now.rain = now.draw() % 10;
            now.passHour();
        }
        return Integer.bitCount(now.sayings.allKnowers());
    }

    // ---- what would be

    public int then(int n, int one) {
        if (!within(n, 0, FURTHEST_THOUGHT) || !now.folk.has(one)) {
            return error(BEYOND);
        }
        now.thinkAll(n);
        return now.sayings.knownBy(one, now.thoughts);
    }

    public int learns(int one, int saying) {
        if (!now.folk.has(one) || !now.sayings.has(saying)) {
            return error(BEYOND);
        }
        Saying s = now.thought(saying);
        for (int n = 0; n <= FURTHEST_THOUGHT; n++) {
            if (inSet(s.knowers, one) == 1) {
                return n;
            }
            now.pass(s, now.rain, now.ways.stopped, now.hour + n);
        }
        return error(NONE);
    }

    public int calls(int saying, int n, int all, int none) {
        if (!now.sayings.has(saying) || !within(n, 0, FURTHEST_THOUGHT)) {
            return error(BEYOND);
        }
        if (!isSetOf(now.folk.size(), all) || !isSetOf(now.folk.size(), none) || (all & none) != 0) {
            return error(BEYOND);
        }
        int set = 0;
        for (int well = 0; well < now.wellCount; well++) {
            Saying s = now.thought(saying);
            s.well = well;
            s.left = 0;
            now.passAll(s, now.rain, now.ways.stopped, n);
            set = withMember(set, well, (s.knowers & all) == all && (s.knowers & none) == 0);
        }
        return set;
    }

    public int stops(int one, int saying, int n) {
        if (!now.folk.has(one) || !now.sayings.has(saying) || !within(n, 0, 10)) {
            return error(BEYOND);
        }
        int sets = 1 << now.ways.size();
        for (int many = 0; many <= now.ways.size(); many++) {
            for (int more = 0; more < sets; more++) {
                if (Integer.bitCount(more) == many && hinders(more, one, saying, n)) {
                    return more;
                }
            }
        }
        return error(NONE);
    }

    public int who(int sheet, int n) {
        Sheet told = sheetAt(sheet);
        if (told == null || !within(n, 0, FURTHEST_THOUGHT)) {
            return error(BEYOND);
        }
        if (!told.tellsOf(now.folk.size())) {
            return error(NONE);
        }
        now.thinkAll(n);
        int set = 0;
        for (int i = 0; i < now.thoughts.size(); i++) {
            set = withMember(set, i, told.fits(now.thoughts.get(i)));
        }
        return set;
    }

    public int loud(int sheet, int saying, int n, int what) {
        Sheet told = sheetAt(sheet);
        if (told == null || !now.sayings.has(saying) || !within(n, 0, 20) || !within(what, 0, 1)) {
            return error(BEYOND);
        }
        if (!told.tellsOf(now.folk.size())) {
            return error(NONE);
        }
        int many = 0;
        int least = -1;
        for (int strength = 99; strength >= 0; strength--) {
            Saying s = now.thought(saying);
            s.strength = strength;
            now.passAll(s, now.rain, now.ways.stopped, n);
            if (told.fits(s.knowers)) {
                many++;
                least = strength;
            }
        }
        if (what == 0) {
            return many;
        }
        return least < 0 ? error(NONE) : least;
    }

    public int alike(int n) {
        if (!within(n, 0, FURTHEST_THOUGHT)) {
            return error(BEYOND);
        }
        now.thinkAll(n);
        int pairs = 0;
        for (int one = 0; one < now.folk.size(); one++) {
            for (int other = one + 1; other < now.folk.size(); other++) {
                if (now.sayings.knownBy(one, now.thoughts) == now.sayings.knownBy(other, now.thoughts)) {
                    pairs++;
                }
            }
        }
        return pairs;
    }

    public int furthest(int n, int what) {
        if (!within(n, 0, FURTHEST_THOUGHT) || !within(what, 0, 1)) {
            return error(BEYOND);
        }
        if (now.sayings.size() == 0) {
            return error(NONE);
        }
        now.thinkAll(n);
        int best = 0;
        int most = -1;
        for (int i = 0; i < now.thoughts.size(); i++) {
            int many = Integer.bitCount(now.thoughts.get(i));
            if (many > most) {
                best = i;
                most = many;
            }
        }
        return what == 0 ? best : most;
    }

    public int odds(int one, int saying, int n, int part) {
        if (!now.folk.has(one) || !now.sayings.has(saying)) {
            return error(BEYOND);
        }
        if (!within(n, 0, FURTHEST_THOUGHT) || !within(part, 0, 1)) {
            return error(BEYOND);
        }
        int above = 0;
        for (int rain = 0; rain <= 9; rain++) {
            Saying s = now.thought(saying);
            now.passAll(s, rain, now.ways.stopped, n);
            above += inSet(s.knowers, one);
        }
        int common = commonDivisor(above, 10);
        if (common <= 0) {
            return 0;
        }
        return (part == 0 ? above : 10) / common;
    }

    // ---- draws, voices, sheets, images, what is told

    public int seed(int v) {
        int old = now.z;
        now.z = v;
        return old;
    }

    public int voice(int saying, int act, int x) {
        if (!now.sayings.has(saying) || !within(act, Voices.CALLS, Voices.TASTES)) {
            return error(BEYOND);
        }
        return voices.begin(saying, now.thought(saying), act, x);
    }

    public int trace(int i) {
        if (!voices.bodies.has(i)) {
            return error(NONE);
        }
        return voices.bodies.get(i);
    }

    public int sheet(int sheet, int bits, int n) {
        Sheet made = sheetAt(sheet);
        if (made == null || bits != 0 && bits != 8 && bits != 16 && bits != 32) {
            return error(BEYOND);
        }
        if (bits != 0 && n < 0) {
            return error(STATE);
        }
        if (bits != 0 && n > MOST_NUMBERS) {
            return error(BEYOND);
        }
        made.bits = bits;
        made.numbers.zeros(bits == 0 ? 0 : n);
        return 1;
    }

    public int put(int sheet, int i, int v) {
        Sheet changed = sheetAt(sheet);
        if (changed == null) {
            return error(BEYOND);
        }
        if (changed.isMissing()) {
            return error(NONE);
        }
        if (!changed.numbers.has(i)) {
            return error(BEYOND);
        }
        changed.numbers.set(i, changed.lowest(v));
        return 1;
    }

    public int move(int sheet, int i, int other, int j, int n) {
        Sheet from = sheetAt(sheet);
        Sheet to = sheetAt(other);
        if (from == null || to == null) {
            return error(BEYOND);
        }
        if (from.isMissing() || to.isMissing()) {
            return error(NONE);
        }
        if (from.bits != to.bits) {
            return error(KIND);
        }
        if (!from.numbers.hasRun(i, n) || !to.numbers.hasRun(j, n)) {
            return error(BEYOND);
        }
        // Both may be the same SHEET, so the numbers are laid aside as they all were.
        moved.copyFrom(from.numbers);
        for (int k = 0; k < n; k++) {
            to.numbers.set(j + k, moved.get(i + k));
        }
        return n;
    }

    public int palates(int sheet) {
        Sheet read = sheetAt(sheet);
        if (read == null) {
            return error(BEYOND);
        }
        if (read.isMissing()) {
            return error(NONE);
        }
        int many = Math.min(read.numbers.size(), now.folk.size());
        for (int i = 0; i < many; i++) {
            int palate = read.numbers.get(i);
            if (!within(palate, 0, 99)) {
                return i;
            }
            now.folk.palates.set(i, palate);
        }
        return many;
    }

    public int judge(int sheet) {
        Sheet judged = sheetAt(sheet);
        if (judged == null) {
            return error(BEYOND);
        }
        if (judged.isMissing()) {
            return error(NONE);
        }
        int both = Math.min(judged.numbers.size(), now.sayings.size());
        for (int i = 0; i < both; i++) {
            if (judged.numbers.get(i) != now.sayings.strengths.get(i)) {
                return i;
            }
        }
        return judged.numbers.size() == now.sayings.size() ? -1 : both;
    }

    public int image() {
        kept.copyFrom(now);
        images++;
        return images;
    }

    public int restore() {
        if (images == 0) {
            return error(NONE);
        }
        now.copyFrom(kept);
        return now.hour;
    }

    public int tell(int v) {
        if (now.waiting.size() >= MOST_WAITING) {
            return error(FULL);
        }
        now.waiting.add(v);
        return now.waiting.size();
    }

    public int check() {
        int wrong = 0;
        for (int i = 0; i < now.waiting.size() && wrong == 0; i++) {
            now.thinkAll(i + 1);
            if (now.waiting.get(i) != now.strengthThen) {
                wrong = 1 + i;
            }
        }
        now.waiting.clear();
        return wrong;
    }

    public int count(int what) {
        switch (what) {
            case 0: return now.wellCount;
            case 1: return now.ways.size();
            case 2: return now.sayings.size();
            case 3: return now.folk.size();
            case 4: return now.hour;
            case 5: return now.rain;
            case 6: return now.ways.stopped;
            case 7: return now.sayings.allStrength();
            case 8: return Integer.bitCount(now.sayings.allKnowers());
            case 9: return now.tape.size();
            case 10: return now.waiting.size();
            case 11: return voices.bodies.size();
            case 12: return now.z;
            default: return error(BEYOND);
        }
    }

    public int told(int k) {
        if (!within(k, BEYOND, KIND)) {
            return error(BEYOND);
        }
        return errors.get(k);
    }

    // ---- what the calls share

    private int error(int k) {
        errors.set(k, errors.get(k) + 1);
        return LOW - k;
    }

    private Sheet sheetAt(int i) {
        return i >= 0 && i < sheets.length ? sheets[i] : null;
    }

    private boolean mayBeOfOne(int what, int v) {
        if (what == 0) {
            return now.isWell(v);
        }
        return what == 1 ? within(v, 0, 99) : isSetOf(now.sayings.size(), v);
    }

    private boolean hinders(int more, int one, int saying, int n) {
        if ((more & now.ways.stopped) != 0) {
            return false;
        }
        Saying s = now.thought(saying);
        now.passAll(s, now.rain, now.ways.stopped | more, n);
        return inSet(s.knowers, one) == 0;
    }

    private static boolean within(int v, int least, int most) {
        return v >= least && v <= most;
    }

    private static boolean isKindAndDigit(int km) {
        return within(km, 0, 10 * OATH + 9);
    }

    private static boolean isSetOf(int many, int set) {
        return set >= 0 && set < 1 << many;
    }

    private static int inSet(int set, int member) {
        return set >> member & 1;
    }

    private static int withMember(int set, int member, boolean in) {
        return in ? set | 1 << member : set & ~(1 << member);
    }

    private static int commonDivisor(int a, int b) {
        for (int d = Math.max(a, b); d > 1; d--) {
            if (a % d == 0 && b % d == 0) {
                return d;
            }
        }
        return 1;
    }

    /** Numbers up to a most; made once and used again, and the only place where a number is indexed. */
    private static final class Row {
        private final int[] cells;
        private int size = 0;

        Row(int most) {
            cells = new int[Math.max(0, most)];
        }

        int size() {
            return size;
        }

        boolean has(int i) {
            return i >= 0 && i < size;
        }

        boolean hasRun(int i, int n) {
            // Taken from the size, as i + n may wrap.
            return n >= 0 && i >= 0 && i <= size - n;
        }

        int get(int i) {
            return i >= 0 && i < cells.length ? cells[i] : 0;
        }

        void set(int i, int v) {
            if (i >= 0 && i < cells.length) {
                cells[i] = v;
            }
        }

        void add(int v) {
            if (size >= 0 && size < cells.length) {
                cells[size] = v;
                size++;
            }
        }

        int removeLast() {
            if (size <= 0 || size > cells.length) {
                return 0;
            }
            size--;
            return cells[size];
        }

        void clear() {
            size = 0;
        }

        void zeros(int n) {
            clear();
            for (int i = 0; i < n && i < cells.length; i++) {
                add(0);
            }
        }

        void copyFrom(Row other) {
            clear();
            for (int i = 0; i < other.size; i++) {
                add(other.get(i));
            }
        }
    }

    /** One SAYING as it is thought of: what is done to it touches no other, nor the VILLAGE's. */
    private static final class Saying {
        int kind = SAYING;
        int digit = 0;
        int well = 0;
        int strength = 0;
        int left = 0;
        int knowers = 0;
    }

    /** All SAYINGS. Who KNOWS one is kept with it, as only that bears on where it GOES ON. */
    private static final class Sayings {
        final Row kinds = new Row(MOST_SAYINGS);
        final Row digits = new Row(MOST_SAYINGS);
        final Row wells = new Row(MOST_SAYINGS);
        final Row strengths = new Row(MOST_SAYINGS);
        final Row lefts = new Row(MOST_SAYINGS);
        final Row knowers = new Row(MOST_SAYINGS);

        int size() {
            return kinds.size();
        }

        boolean has(int i) {
            return kinds.has(i);
        }

        void add(int kind, int digit, int well, int strength) {
            kinds.add(kind);
            digits.add(digit);
            wells.add(well);
            strengths.add(strength);
            lefts.add(0);
            knowers.add(0);
        }

        void load(int i, Saying s) {
            s.kind = kinds.get(i);
            s.digit = digits.get(i);
            s.well = wells.get(i);
            s.strength = strengths.get(i);
            s.left = lefts.get(i);
            s.knowers = knowers.get(i);
        }

        void keep(int i, Saying s) {
            wells.set(i, s.well);
            strengths.set(i, s.strength);
            lefts.set(i, s.left);
            knowers.set(i, s.knowers);
        }

        /** What one KNOWS, by who knows each SAYING. */
        int knownBy(int one, Row known) {
            int set = 0;
            for (int i = 0; i < size(); i++) {
                set = withMember(set, i, inSet(known.get(i), one) == 1);
            }
            return set;
        }

        void learnt(int one, int set) {
            for (int i = 0; i < size(); i++) {
                knowers.set(i, withMember(knowers.get(i), one, inSet(set, i) == 1));
            }
        }

        int allStrength() {
            int sum = 0;
            for (int i = 0; i < size(); i++) {
                sum += strengths.get(i);
            }
            return sum;
        }

        int allKnowers() {
            int set = 0;
            for (int i = 0; i < size(); i++) {
                set |= knowers.get(i);
            }
            return set;
        }

        void copyFrom(Sayings other) {
            kinds.copyFrom(other.kinds);
            digits.copyFrom(other.digits);
            wells.copyFrom(other.wells);
            strengths.copyFrom(other.strengths);
            lefts.copyFrom(other.lefts);
            knowers.copyFrom(other.knowers);
        }
    }

    private static final class Ways {
        final Row starts = new Row(MOST_WAYS);
        final Row ends = new Row(MOST_WAYS);
        final Row lengths = new Row(MOST_WAYS);
        int stopped = 0;

        int size() {
            return starts.size();
        }

        boolean has(int i) {
            return starts.has(i);
        }

        void add(int from, int to, int length) {
            starts.add(from);
            ends.add(to);
            lengths.add(length);
        }

        int firstFrom(int well, int without) {
            for (int i = 0; i < starts.size(); i++) {
                if (starts.get(i) == well && inSet(without, i) == 0) {
                    return i;
                }
            }
            return -1;
        }

        int lastFrom(int well, int without) {
            for (int i = starts.size() - 1; i >= 0; i--) {
                if (starts.get(i) == well && inSet(without, i) == 0) {
                    return i;
                }
            }
            return -1;
        }

        void copyFrom(Ways other) {
            starts.copyFrom(other.starts);
            ends.copyFrom(other.ends);
            lengths.copyFrom(other.lengths);
            stopped = other.stopped;
        }
    }

    private static final class Folk {
        final Row wells = new Row(MOST_FOLK);
        final Row palates = new Row(MOST_FOLK);

        int size() {
            return wells.size();
        }

        boolean has(int i) {
            return wells.has(i);
        }

        void add(int well, int palate) {
            wells.add(well);
            palates.add(palate);
        }

        int drinkersAt(int well) {
            int set = 0;
            for (int i = 0; i < wells.size(); i++) {
                set = withMember(set, i, wells.get(i) == well);
            }
            return set;
        }

        void copyFrom(Folk other) {
            wells.copyFrom(other.wells);
            palates.copyFrom(other.palates);
        }
    }

    /** All that an IMAGE keeps, and how SAYINGS go on in it. */
    private static final class Village {
        int wellCount = 4;
        int rain = 0;
        int hour = 0;
        int z = 1;
        final Ways ways = new Ways();
        final Sayings sayings = new Sayings();
        final Folk folk = new Folk();
        final Row tape = new Row(MOST_TAPE);
        final Row waiting = new Row(MOST_WAITING);
        final Text weakens = new Text(0);
        final Text tastes = new Text(1);
        private final Saying mind = new Saying();
        /** Behind the HOURS of the latest thinkAll(): who KNOWS each SAYING, and all STRENGTHS together. */
        final Row thoughts = new Row(MOST_SAYINGS);
        int strengthThen = 0;

        void copyFrom(Village other) {
            wellCount = other.wellCount;
            rain = other.rain;
            hour = other.hour;
            z = other.z;
            ways.copyFrom(other.ways);
            sayings.copyFrom(other.sayings);
            folk.copyFrom(other.folk);
            tape.copyFrom(other.tape);
            waiting.copyFrom(other.waiting);
            weakens.codes.copyFrom(other.weakens.codes);
            tastes.codes.copyFrom(other.tastes.codes);
        }

        boolean isWell(int i) {
            return within(i, 0, wellCount - 1);
        }

        Text textOf(int use) {
            return use == 0 ? weakens : tastes;
        }

        int ofOne(int one, int what) {
            if (what == 0) {
                return folk.wells.get(one);
            }
            return what == 1 ? folk.palates.get(one) : sayings.knownBy(one, sayings.knowers);
        }

        int draw() {
            z = z * 1103515245 + 12345;
            return z >>> 8;
        }

        int weakeningOf(Saying s, int rainThen) {
            int v = weakens.gives(s.strength, s.digit, rainThen);
            switch (s.kind) {
                case SECRET: return Math.max(0, v - 1);
                case LIE: return 2 * v;
                case NAME: return 0;
                case LOVE: return Math.max(0, Math.max(0, v - 1) - s.digit % 3);
                case QUARREL: return 2 * v + 1;
                case OATH: return v / 2;
                default: return v;
            }
        }

        int nextWayOf(Saying s, int stopped) {
            switch (s.kind) {
                case LIE:
                case QUARREL:
                    return ways.lastFrom(s.well, stopped);
                case NAME:
                    return -1;
                case LOVE:
                    boolean heldUp = (folk.drinkersAt(s.well) & ~s.knowers) != 0;
                    return heldUp ? -1 : ways.firstFrom(s.well, stopped);
                default:
                    return ways.firstFrom(s.well, stopped);
            }
        }

        /** An HOUR of one SAYING: none bears on another, so that one can be thought of alone. */
        void pass(Saying s, int rainThen, int stopped, int hourThen) {
            s.strength = Math.max(0, s.strength - weakeningOf(s, rainThen));
            if (s.left > 0) {
                s.left--;
            } else {
                int way = nextWayOf(s, stopped);
                if (ways.has(way)) {
                    s.well = ways.ends.get(way);
                    s.left = ways.lengths.get(way);
                }
            }
            if (s.left == 0) {
                beTasted(s, hourThen);
            }
        }

        private void beTasted(Saying s, int hourThen) {
            for (int i = 0; i < folk.size(); i++) {
                int palate = folk.palates.get(i);
                boolean strong = s.strength >= Math.max(1, palate);
                if (strong && folk.wells.get(i) == s.well && tastes.gives(s.strength, palate, hourThen) != 0) {
                    s.knowers = withMember(s.knowers, i, true);
                }
            }
        }

        /** The next n HOURS of one SAYING, for what is asked of thoughts: STRENGTH and who KNOWS it. */
        void passAll(Saying s, int rainThen, int stopped, int n) {
            // Nobody gets to KNOW what has no STRENGTH left, and none comes back: later HOURS change neither.
            for (int i = 0; i < n && s.strength > 0; i++) {
                pass(s, rainThen, stopped, hour + i);
            }
        }

        void passHour() {
            for (int i = 0; i < sayings.size(); i++) {
                Saying s = thought(i);
                pass(s, rain, ways.stopped, hour);
                sayings.keep(i, s);
            }
            hour++;
        }

        /** The same object for each SAYING: the next thought takes the place of this one. */
        Saying thought(int saying) {
            sayings.load(saying, mind);
            return mind;
        }

        /** Fills what is thought of all SAYINGS behind n HOURS. */
        void thinkAll(int n) {
            thoughts.clear();
            strengthThen = 0;
            for (int i = 0; i < sayings.size(); i++) {
                Saying s = thought(i);
                passAll(s, rain, ways.stopped, n);
                thoughts.add(s.knowers);
                strengthThen += s.strength;
            }
        }
    }

    /** The TEXT of a USE: no codes without one, else its numbers (0 up), NAMES (-1 to -3) and signs. */
    private static final class Text {
        final Row codes = new Row(MOST_TAPE);
        private final Row stack = new Row(MOST_TAPE);
        private final int use;

        Text(int use) {
            this.use = use;
        }

        int gives(int a, int b, int c) {
            if (codes.size() == 0) {
                return held(use == 0 ? 1 + c / 2 : 1);
            }
            stack.clear();
            for (int i = 0; i < codes.size(); i++) {
                int code = codes.get(i);
                if (code >= 0) {
                    stack.add(code);
                } else if (code >= -3) {
                    stack.add(code == -1 ? a : code == -2 ? b : c);
                } else if (code == -'!') {
                    stack.add(stack.removeLast() == 0 ? 1 : 0);
                } else {
                    int right = stack.removeLast();
                    int left = stack.removeLast();
                    stack.add(joined(left, -code, right));
                }
            }
            return held(stack.removeLast());
        }

        private int held(int v) {
            int most = use == 0 ? 99 : 1;
            return v < 0 ? 0 : v > most ? most : v;
        }

        private static int joined(int left, int sign, int right) {
            switch (sign) {
                case '|': return left != 0 || right != 0 ? 1 : 0;
                case '&': return left != 0 && right != 0 ? 1 : 0;
                case '<': return left < right ? 1 : 0;
                case '=': return left == right ? 1 : 0;
                case '>': return left > right ? 1 : 0;
                case '+': return left + right;
                case '-': return left - right;
                case '*': return left * right;
                case '/': return right == 0 ? 0 : left / right;
                case '%': return right == 0 ? 0 : left % right;
                default: return 0;
            }
        }
    }

    /** Reads TEXTS: each byte is taken only if a TEXT goes on with it, so it stands still at a FAULT. */
    private static final class Reader {
        private static final int MOST_OPEN = 5;
        private static final int COMPARING = 2;
        private static final int DEEPEST = 4;
        final Row codes = new Row(MOST_TAPE);
        private final Row bytes = new Row(MOST_TAPE);
        private String names = "";
        private int place = 0;

        /** The FAULT, or -1: then the codes are those of the TEXT. */
        int faultOf(Row tape, String itsNames) {
            bytes.copyFrom(tape);
            names = itsNames;
            place = 0;
            codes.clear();
            return reads(0, 0) && place == bytes.size() ? -1 : place;
        }

        private int next() {
            return bytes.has(place) ? bytes.get(place) : -1;
        }

        private static boolean isIn(String signs, int sign) {
            return sign >= 0 && signs.indexOf((char) sign) >= 0;
        }

        private static String signsOf(int level) {
            switch (level) {
                case 0: return "|";
                case 1: return "&";
                case COMPARING: return "<=>";
                case 3: return "+-";
                default: return "*/%";
            }
        }

        /** T, A, B, S, P (levels 0 to 4) alike: parts of the next level, joined by the level's signs. */
        private boolean reads(int level, int open) {
            if (!readsPart(level, open)) {
                return false;
            }
            String signs = signsOf(level);
            for (int i = 0; i < MOST_TAPE && isIn(signs, next()); i++) {
                int sign = next();
                place++;
                if (!readsPart(level, open)) {
                    return false;
                }
                codes.add(-sign);
                if (level == COMPARING) {
                    return true;
                }
            }
            return true;
        }

        private boolean readsPart(int level, int open) {
            return level < DEEPEST ? reads(level + 1, open) : readsOne(open);
        }

        private boolean readsOne(int open) {
            int sign = next();
            if (isIn("0123456789", sign)) {
                readNumber();
                return true;
            }
            if (isIn(names, sign)) {
                codes.add(-1 - names.indexOf((char) sign));
                place++;
                return true;
            }
            if (open >= MOST_OPEN || sign != '!' && sign != '(') {
                return false;
            }
            place++;
            return sign == '!' ? readsNot(open + 1) : readsBracket(open + 1);
        }

        private boolean readsNot(int open) {
            if (!readsOne(open)) {
                return false;
            }
            codes.add(-'!');
            return true;
        }

        private boolean readsBracket(int open) {
            if (!reads(0, open) || next() != ')') {
                return false;
            }
            place++;
            return true;
        }

        private void readNumber() {
            int number = 0;
            for (int i = 0; i < 4 && isIn("0123456789", next()); i++) {
                number = 10 * number + next() - '0';
                place++;
            }
            codes.add(number);
        }
    }

    /** What a SAYING's KIND says: the BODY of its KIND, or of the next KIND above that has one. */
    private static final class Voices {
        static final int CALLS = 0;
        static final int ECHOES = 1;
        static final int CLEARS = 2;
        static final int TASTES = 3;
        private static final int ACTS = 4;
        private static final int DEEPEST = 40;
        private static final int[] ABOVE = {-1, SAYING, SAYING, SAYING, SECRET, LIE, NAME};
        private static final int[] BODIES = {
            10, 11, 12, 13,
            20, 0, 0, 0,
            0, 30, 0, 0,
            0, 0, 40, 0,
            0, 0, 0, 50,
            0, 60, 0, 0,
            0, 0, 70, 71,
        };
        final Row bodies = new Row(MOST_TRACE);
        private int number = 0;
        private int kind = SAYING;
        private int digit = 0;

        static int above(int kind) {
            return kind >= 0 && kind < ABOVE.length ? ABOVE[kind] : -1;
        }

        static boolean isUnder(int kind, int other) {
            int k = kind;
            for (int i = 0; i < ABOVE.length && k >= 0; i++) {
                if (k == other) {
                    return true;
                }
                k = above(k);
            }
            return false;
        }

        private static int bodyOf(int kind, int act) {
            int i = kind * ACTS + act;
            return i >= 0 && i < BODIES.length ? BODIES[i] : 0;
        }

        int begin(int itsNumber, Saying s, int act, int x) {
            number = itsNumber;
            kind = s.kind;
            digit = s.digit;
            bodies.clear();
            return says(kind, act, x, 0);
        }

        private int says(int from, int act, int x, int depth) {
            int k = from;
            for (int i = 0; i < ABOVE.length && k >= 0 && bodyOf(k, act) == 0; i++) {
                k = above(k);
            }
            if (k < 0 || depth > DEEPEST) {
                return 0;
            }
            bodies.add(bodyOf(k, act));
            return saysBody(bodyOf(k, act), above(k), x, depth + 1);
        }

        private int saysBody(int body, int up, int x, int depth) {
            switch (body) {
                case 10: return x + number;
                case 11: return says(kind, CALLS, x, depth) * 2;
                case 12: return x - digit;
                case 13: return says(kind, ECHOES, x, depth) ^ says(kind, CLEARS, x, depth);
                case 20: return says(up, CALLS, x, depth) * 3;
                case 30: return says(up, ECHOES, x, depth) - says(kind, CLEARS, 1, depth);
                case 40: return -says(up, CLEARS, x, depth);
                case 50: return says(up, TASTES, x, depth) - says(kind, CALLS, 2, depth);
                case 60: return says(up, ECHOES, x + 1, depth);
                case 70: return says(up, CLEARS, x, depth) ^ number;
                case 71: return says(kind, ECHOES, x, depth) - says(up, TASTES, x, depth);
                default: return 0;
            }
        }
    }

    /** A row of numbers of 8, 16 or 32 bits; of 0 bits it is missing. */
    private static final class Sheet {
        int bits = 0;
        final Row numbers = new Row(MOST_NUMBERS);

        boolean isMissing() {
            return bits == 0;
        }

        int lowest(int v) {
            if (bits == 8) {
                return (byte) v;
            }
            return bits == 16 ? (short) v : v;
        }

        boolean tellsOf(int folkCount) {
            return !isMissing() && numbers.size() == folkCount;
        }

        boolean fits(int knowers) {
            for (int i = 0; i < numbers.size(); i++) {
                int number = numbers.get(i);
                if (number >= 0 && number != inSet(knowers, i)) {
                    return false;
                }
            }
            return true;
        }
    }
}
