import java.util.ArrayDeque;
import java.util.ArrayList;
import java.util.Arrays;
import java.util.Deque;
import java.util.List;
import java.util.TreeSet;

/**
 * The document once more, told another way than in WellTold: a whole world that is copied before it
 * is thought about, KINDS as classes, sets as sets, TEXTS split at their loosest sign. Slow and plain.
 */
final class Elder {
    static final int LOW = -1000000000;
    static final int BEYOND = LOW - 1;
    static final int NONE = LOW - 2;
    static final int STATE = LOW - 3;
    static final int FULL = LOW - 4;
    static final int KIND = LOW - 5;

    private World world = new World();
    private World image = null;
    private int images = 0;
    private final int[] told = new int[6];
    private final Object[] sheets = new Object[4];
    private List<Integer> trace = new ArrayList<>();

    // ---- KINDS

    static class Say {
        int m;
        int at;
        int strength;
        int left;
        int number;
        List<Integer> trace = new ArrayList<>();

        int kind() { return 0; }
        int weakens(int v) { return v; }
        Way goesOn(World w) {
            for (Way way : w.ways) {
                if (!way.stopped && way.from == at) {
                    return way;
                }
            }
            return null;
        }
        int calls(int x) { trace.add(10); return x + number; }
        int echoes(int x) { trace.add(11); return calls(x) * 2; }
        int clears(int x) { trace.add(12); return x - m; }
        int tastes(int x) { trace.add(13); int e = echoes(x); return e ^ clears(x); }
    }

    static class Secret extends Say {
        @Override int kind() { return 1; }
        @Override int weakens(int v) { return Math.max(super.weakens(v) - 1, 0); }
        @Override int calls(int x) { trace.add(20); return super.calls(x) * 3; }
    }

    static class Lie extends Say {
        @Override int kind() { return 2; }
        @Override int weakens(int v) { return 2 * super.weakens(v); }
        @Override Way goesOn(World w) {
            Way last = null;
            for (Way way : w.ways) {
                last = !way.stopped && way.from == at ? way : last;
            }
            return last;
        }
        @Override int echoes(int x) { trace.add(30); int e = super.echoes(x); return e - clears(1); }
    }

    static class Name extends Say {
        @Override int kind() { return 3; }
        @Override int weakens(int v) { return 0; }
        @Override Way goesOn(World w) { return null; }
        @Override int clears(int x) { trace.add(40); return -super.clears(x); }
    }

    static class Love extends Secret {
        @Override int kind() { return 4; }
        @Override int weakens(int v) { return Math.max(super.weakens(v) - m % 3, 0); }
        @Override Way goesOn(World w) {
            for (One one : w.folk) {
                if (one.well == at && !one.knows.contains(number)) {
                    return null;
                }
            }
            return super.goesOn(w);
        }
        @Override int tastes(int x) { trace.add(50); int t = super.tastes(x); return t - calls(2); }
    }

    static class Quarrel extends Lie {
        @Override int kind() { return 5; }
        @Override int weakens(int v) { return super.weakens(v) + 1; }
        @Override int echoes(int x) { trace.add(60); return super.echoes(x + 1); }
    }

    static class Oath extends Name {
        @Override int kind() { return 6; }
        @Override int weakens(int v) { return super.weakens(v) + v / 2; }
        @Override Way goesOn(World w) {
            Say plain = new Say();
            plain.at = at;
            return plain.goesOn(w);
        }
        @Override int clears(int x) { trace.add(70); return super.clears(x) ^ number; }
        @Override int tastes(int x) { trace.add(71); int e = echoes(x); return e - super.tastes(x); }
    }

    static Say ofKind(int kind) {
        return switch (kind) {
            case 0 -> new Say();
            case 1 -> new Secret();
            case 2 -> new Lie();
            case 3 -> new Name();
            case 4 -> new Love();
            case 5 -> new Quarrel();
            default -> new Oath();
        };
    }

    static Say remade(Say s, int kind, int m) {
        Say made = ofKind(kind);
        made.m = m;
        made.at = s.at;
        made.strength = s.strength;
        made.left = s.left;
        made.number = s.number;
        return made;
    }

    // ---- the world

    static final class Way {
        int number;
        int from;
        int to;
        int hours;
        boolean stopped;
    }

    static final class One {
        int well;
        int palate;
        TreeSet<Integer> knows = new TreeSet<>();
    }

    static final class World {
        int wells = 4;
        int rain = 0;
        int hour = 0;
        int z = 1;
        List<Way> ways = new ArrayList<>();
        List<Say> sayings = new ArrayList<>();
        List<One> folk = new ArrayList<>();
        String tape = "";
        String[] texts = new String[2];
        List<Integer> waiting = new ArrayList<>();

        World copy() {
            World w = new World();
            w.wells = wells;
            w.rain = rain;
            w.hour = hour;
            w.z = z;
            for (Way way : ways) {
                Way c = new Way();
                c.number = way.number;
                c.from = way.from;
                c.to = way.to;
                c.hours = way.hours;
                c.stopped = way.stopped;
                w.ways.add(c);
            }
            for (Say s : sayings) {
                w.sayings.add(remade(s, s.kind(), s.m));
            }
            for (One one : folk) {
                One c = new One();
                c.well = one.well;
                c.palate = one.palate;
                c.knows = new TreeSet<>(one.knows);
                w.folk.add(c);
            }
            w.tape = tape;
            w.texts = texts.clone();
            w.waiting = new ArrayList<>(waiting);
            return w;
        }

        int law(int use, int a, int b, int c) {
            int v = texts[use] != null ? Elder.worth(texts[use], use, a, b, c) : use == 0 ? 1 + c / 2 : 1;
            return Math.min(Math.max(v, 0), use == 0 ? 99 : 1);
        }

        int weakens(Say s) {
            return s.weakens(law(0, s.strength, s.m, rain));
        }

        void passHour() {
            for (Say s : sayings) {
                s.strength = Math.max(s.strength - weakens(s), 0);
                if (s.left > 0) {
                    s.left--;
                    continue;
                }
                Way way = s.goesOn(this);
                if (way != null) {
                    s.at = way.to;
                    s.left = way.hours;
                }
            }
            for (One one : folk) {
                for (Say s : sayings) {
                    if (s.at == one.well && s.left == 0 && s.strength >= one.palate && s.strength >= 1
                        && law(1, s.strength, one.palate, hour) != 0) {
                        one.knows.add(s.number);
                    }
                }
            }
            hour++;
        }

        World behind(int n) {
            World w = copy();
            for (int i = 0; i < n; i++) {
                w.passHour();
            }
            return w;
        }

        int strengths() {
            int sum = 0;
            for (Say s : sayings) {
                sum += s.strength;
            }
            return sum;
        }

        int knowing() {
            int many = 0;
            for (One one : folk) {
                many += one.knows.isEmpty() ? 0 : 1;
            }
            return many;
        }

        boolean knows(int one, int saying) {
            return folk.get(one).knows.contains(saying);
        }
    }

    static int bits(Iterable<Integer> set) {
        int v = 0;
        for (int i : set) {
            v |= 1 << i;
        }
        return v;
    }

    // ---- TEXTS

    /** The FAULT by the signs that may come next; -1: none. */
    static int fault(String tape, int use) {
        String names = use == 0 ? "smr" : "sph";
        Deque<String> open = new ArrayDeque<>();
        boolean compared = false;
        boolean wanted = true;
        int digits = 0;
        for (int i = 0; i < tape.length(); i++) {
            char c = tape.charAt(i);
            if (wanted) {
                if (c == '!' || c == '(') {
                    if (open.size() == 5) {
                        return i;
                    }
                    open.push(c == '!' ? "!" : compared ? "(compared" : "(");
                    compared = c == '!' && compared;
                    continue;
                }
                boolean digit = c >= '0' && c <= '9';
                if (!digit && names.indexOf(c) < 0) {
                    return i;
                }
                digits = digit ? 1 : 4;
                wanted = false;
            } else if (c >= '0' && c <= '9') {
                if (digits == 4) {
                    return i;
                }
                digits++;
                continue;
            } else if (c == ')') {
                if (open.isEmpty()) {
                    return i;
                }
                compared = open.pop().equals("(compared");
                digits = 4;
            } else if ("<=>".indexOf(c) >= 0) {
                if (compared) {
                    return i;
                }
                compared = true;
                wanted = true;
            } else if ("&|".indexOf(c) >= 0) {
                compared = false;
                wanted = true;
            } else if ("+-*/%".indexOf(c) >= 0) {
                wanted = true;
            } else {
                return i;
            }
            while (!wanted && !open.isEmpty() && open.peek().equals("!")) {
                open.pop();
            }
        }
        return wanted || !open.isEmpty() ? tape.length() : -1;
    }

    /** Splits at the last of the loosest signs that stand outside all brackets. */
    static int worth(String t, int use, int a, int b, int c) {
        for (String signs : new String[] {"|", "&", "<=>", "+-", "*/%"}) {
            int depth = 0;
            for (int i = t.length() - 1; i > 0; i--) {
                depth += t.charAt(i) == ')' ? 1 : t.charAt(i) == '(' ? -1 : 0;
                if (depth == 0 && signs.indexOf(t.charAt(i)) >= 0) {
                    int left = worth(t.substring(0, i), use, a, b, c);
                    int right = worth(t.substring(i + 1), use, a, b, c);
                    return joined(t.charAt(i), left, right);
                }
            }
        }
        if (t.charAt(0) == '!') {
            return worth(t.substring(1), use, a, b, c) == 0 ? 1 : 0;
        }
        if (t.charAt(0) == '(') {
            return worth(t.substring(1, t.length() - 1), use, a, b, c);
        }
        int name = (use == 0 ? "smr" : "sph").indexOf(t);
        return name < 0 ? Integer.parseInt(t) : new int[] {a, b, c}[name];
    }

    private static int joined(char sign, int left, int right) {
        return switch (sign) {
            case '|' -> left != 0 || right != 0 ? 1 : 0;
            case '&' -> left != 0 && right != 0 ? 1 : 0;
            case '<' -> left < right ? 1 : 0;
            case '=' -> left == right ? 1 : 0;
            case '>' -> left > right ? 1 : 0;
            case '+' -> left + right;
            case '-' -> left - right;
            case '*' -> left * right;
            case '/' -> right == 0 ? 0 : left / right;
            default -> right == 0 ? 0 : left % right;
        };
    }

    // ---- the calls

    private int error(int e) {
        told[LOW - e]++;
        return e;
    }

    private boolean isWell(int v) { return v >= 0 && v < world.wells; }
    private boolean isWay(int v) { return v >= 0 && v < world.ways.size(); }
    private boolean isSaying(int v) { return v >= 0 && v < world.sayings.size(); }
    private boolean isOne(int v) { return v >= 0 && v < world.folk.size(); }
    private static boolean in(int v, int least, int most) { return least <= v && v <= most; }

    int wells(int n) {
        if (!in(n, 2, 8)) return error(BEYOND);
        if (!world.ways.isEmpty() || !world.sayings.isEmpty() || !world.folk.isEmpty()) return error(STATE);
        int old = world.wells;
        world.wells = n;
        return old;
    }

    int way(int from, int to, int hours) {
        if (!isWell(from) || !isWell(to) || from == to || !in(hours, 1, 9)) return error(BEYOND);
        if (world.ways.size() == 8) return error(FULL);
        Way w = new Way();
        w.number = world.ways.size();
        w.from = from;
        w.to = to;
        w.hours = hours;
        world.ways.add(w);
        return w.number;
    }

    int ofWay(int way, int what) {
        if (!isWay(way) || !in(what, 0, 3)) return error(BEYOND);
        Way w = world.ways.get(way);
        return new int[] {w.from, w.to, w.hours, w.stopped ? 1 : 0}[what];
    }

    int stop(int way, int v) {
        if (!isWay(way) || !in(v, 0, 1)) return error(BEYOND);
        boolean old = world.ways.get(way).stopped;
        world.ways.get(way).stopped = v == 1;
        return old ? 1 : 0;
    }

    int rain(int v) {
        if (!in(v, 0, 9)) return error(BEYOND);
        int old = world.rain;
        world.rain = v;
        return old;
    }

    int call(int km, int well, int strength) {
        if (!in(km, 0, 69) || !isWell(well) || !in(strength, 0, 99)) return error(BEYOND);
        if (world.sayings.size() == 8) return error(FULL);
        Say s = ofKind(km / 10);
        s.m = km % 10;
        s.at = well;
        s.strength = strength;
        s.number = world.sayings.size();
        world.sayings.add(s);
        return s.number;
    }

    int ofSaying(int saying, int what) {
        if (!isSaying(saying) || !in(what, 0, 7)) return error(BEYOND);
        Say s = world.sayings.get(saying);
        Way next = s.goesOn(world);
        int knowers = 0;
        for (int i = 0; i < world.folk.size(); i++) {
            knowers |= world.knows(i, saying) ? 1 << i : 0;
        }
        return new int[] {s.kind(), s.m, s.at, s.strength, s.left, world.weakens(s),
            next == null ? -1 : next.number, knowers}[what];
    }

    int change(int saying, int what, int v) {
        if (!isSaying(saying) || !in(what, 0, 1)) return error(BEYOND);
        if (what == 0 ? !isWell(v) : !in(v, 0, 99)) return error(BEYOND);
        Say s = world.sayings.get(saying);
        int old = what == 0 ? s.at : s.strength;
        if (what == 0) {
            s.at = v;
            s.left = 0;
        } else {
            s.strength = v;
        }
        return old;
    }

    int become(int saying, int km) {
        if (!isSaying(saying) || !in(km, 0, 69)) return error(BEYOND);
        Say s = world.sayings.get(saying);
        world.sayings.set(saying, remade(s, km / 10, km % 10));
        return s.kind();
    }

    int as(int saying, int kind) {
        if (!isSaying(saying) || !in(kind, 0, 6)) return error(BEYOND);
        Say s = world.sayings.get(saying);
        return ofKind(kind).getClass().isInstance(s) ? s.m : error(KIND);
    }

    int folk(int well, int palate) {
        if (!isWell(well) || !in(palate, 0, 99)) return error(BEYOND);
        if (world.folk.size() == 6) return error(FULL);
        One one = new One();
        one.well = well;
        one.palate = palate;
        world.folk.add(one);
        return world.folk.size() - 1;
    }

    int ofFolk(int one, int what) {
        if (!isOne(one) || !in(what, 0, 2)) return error(BEYOND);
        One o = world.folk.get(one);
        return new int[] {o.well, o.palate, bits(o.knows)}[what];
    }

    int drink(int one, int what, int v) {
        if (!isOne(one) || !in(what, 0, 2)) return error(BEYOND);
        int most = new int[] {world.wells, 100, 1 << world.sayings.size()}[what] - 1;
        if (!in(v, 0, most)) return error(BEYOND);
        One o = world.folk.get(one);
        int old = new int[] {o.well, o.palate, bits(o.knows)}[what];
        switch (what) {
            case 0 -> o.well = v;
            case 1 -> o.palate = v;
            default -> {
                o.knows.clear();
                for (int i = 0; i < 8; i++) {
                    if ((v >> i & 1) == 1) {
                        o.knows.add(i);
                    }
                }
            }
        }
        return old;
    }

    int feed(long word, int n) {
        if (!in(n, 1, 8)) return error(BEYOND);
        if (world.tape.length() + n > 50) return error(FULL);
        for (int i = 0; i < n; i++) {
            world.tape += (char) (word >> 8 * i & 0xff);
        }
        return world.tape.length();
    }

    int text(int use) {
        if (!in(use, 0, 1)) return error(BEYOND);
        String read = world.tape;
        world.tape = "";
        int fault = fault(read, use);
        if (fault >= 0) return -10 - fault;
        world.texts[use] = read;
        return 1;
    }

    int law(int use, int a, int b, int c) {
        return in(use, 0, 1) ? world.law(use, a, b, c) : error(BEYOND);
    }

    int hours(int n) {
        if (!in(n, 1, 99)) return error(BEYOND);
        if (world.hour + n > 9999) return error(STATE);
        world = world.behind(n);
        return world.knowing();
    }

    int loose(int n) {
        if (!in(n, 1, 40)) return error(BEYOND);
        if (world.hour + n > 9999) return error(STATE);
        for (int i = 0; i < n; i++) {
            world.z = (int) (world.z * 1103515245L + 12345L);
            world.rain = (world.z >>> 8) % 10;
            world.passHour();
        }
        return world.knowing();
    }

    int then(int n, int one) {
        if (!in(n, 0, 99) || !isOne(one)) return error(BEYOND);
        return bits(world.behind(n).folk.get(one).knows);
    }

    int learns(int one, int saying) {
        if (!isOne(one) || !isSaying(saying)) return error(BEYOND);
        World w = world.copy();
        for (int n = 0; n <= 99; n++, w.passHour()) {
            if (w.knows(one, saying)) return n;
        }
        return error(NONE);
    }

    int calls(int saying, int n, int all, int none) {
        if (!isSaying(saying) || !in(n, 0, 99)) return error(BEYOND);
        int most = (1 << world.folk.size()) - 1;
        if (!in(all, 0, most) || !in(none, 0, most) || (all & none) != 0) return error(BEYOND);
        TreeSet<Integer> wells = new TreeSet<>();
        for (int well = 0; well < world.wells; well++) {
            World w = world.copy();
            w.sayings.get(saying).at = well;
            w.sayings.get(saying).left = 0;
            w = w.behind(n);
            boolean good = true;
            for (int i = 0; i < w.folk.size(); i++) {
                good &= (all >> i & 1) == 0 || w.knows(i, saying);
                good &= (none >> i & 1) == 0 || !w.knows(i, saying);
            }
            if (good) {
                wells.add(well);
            }
        }
        return bits(wells);
    }

    int stops(int one, int saying, int n) {
        if (!isOne(one) || !isSaying(saying) || !in(n, 0, 10)) return error(BEYOND);
        int best = -1;
        for (int set = 0; set < 1 << world.ways.size(); set++) {
            World w = world.copy();
            boolean more = true;
            for (Way way : w.ways) {
                if ((set >> way.number & 1) == 1) {
                    more &= !way.stopped;
                    way.stopped = true;
                }
            }
            boolean fewer = best < 0 || Integer.bitCount(set) < Integer.bitCount(best);
            if (more && fewer && !w.behind(n).knows(one, saying)) {
                best = set;
            }
        }
        return best < 0 ? error(NONE) : best;
    }

    private int number(int sheet, int i) {
        Object row = sheets[sheet];
        if (row instanceof byte[] b) return b[i];
        if (row instanceof short[] s) return s[i];
        return ((int[]) row)[i];
    }

    private int length(int sheet) {
        Object row = sheets[sheet];
        return row == null ? -1 : java.lang.reflect.Array.getLength(row);
    }

    private boolean fits(int sheet, World w, int saying) {
        for (int i = 0; i < w.folk.size(); i++) {
            int v = number(sheet, i);
            if (v > 1 || v == 1 && !w.knows(i, saying) || v == 0 && w.knows(i, saying)) {
                return false;
            }
        }
        return true;
    }

    int who(int sheet, int n) {
        if (!in(sheet, 0, 3) || !in(n, 0, 99)) return error(BEYOND);
        if (length(sheet) != world.folk.size()) return error(NONE);
        World w = world.behind(n);
        TreeSet<Integer> set = new TreeSet<>();
        for (int i = 0; i < w.sayings.size(); i++) {
            if (fits(sheet, w, i)) {
                set.add(i);
            }
        }
        return bits(set);
    }

    int loud(int sheet, int saying, int n, int what) {
        if (!in(sheet, 0, 3) || !isSaying(saying) || !in(n, 0, 20) || !in(what, 0, 1)) return error(BEYOND);
        if (length(sheet) != world.folk.size()) return error(NONE);
        TreeSet<Integer> set = new TreeSet<>();
        for (int v = 0; v <= 99; v++) {
            World w = world.copy();
            w.sayings.get(saying).strength = v;
            if (fits(sheet, w.behind(n), saying)) {
                set.add(v);
            }
        }
        if (what == 0) return set.size();
        return set.isEmpty() ? error(NONE) : set.first();
    }

    int alike(int n) {
        if (!in(n, 0, 99)) return error(BEYOND);
        World w = world.behind(n);
        int pairs = 0;
        for (One a : w.folk) {
            for (One b : w.folk) {
                pairs += a != b && a.knows.equals(b.knows) ? 1 : 0;
            }
        }
        return pairs / 2;
    }

    int furthest(int n, int what) {
        if (!in(n, 0, 99) || !in(what, 0, 1)) return error(BEYOND);
        if (world.sayings.isEmpty()) return error(NONE);
        World w = world.behind(n);
        int[] many = new int[w.sayings.size()];
        for (One one : w.folk) {
            for (int i : one.knows) {
                many[i]++;
            }
        }
        int most = Arrays.stream(many).max().getAsInt();
        int first = 0;
        while (many[first] != most) {
            first++;
        }
        return what == 0 ? first : most;
    }

    int odds(int one, int saying, int n, int part) {
        if (!isOne(one) || !isSaying(saying) || !in(n, 0, 99) || !in(part, 0, 1)) return error(BEYOND);
        int above = 0;
        for (int rain = 0; rain <= 9; rain++) {
            World w = world.copy();
            w.rain = rain;
            above += w.behind(n).knows(one, saying) ? 1 : 0;
        }
        int common = java.math.BigInteger.valueOf(above).gcd(java.math.BigInteger.TEN).intValue();
        return part == 0 ? above / common : 10 / common;
    }

    int seed(int v) {
        int old = world.z;
        world.z = v;
        return old;
    }

    int voice(int saying, int act, int x) {
        if (!isSaying(saying) || !in(act, 0, 3)) return error(BEYOND);
        Say s = world.sayings.get(saying);
        s.trace = new ArrayList<>();
        trace = s.trace;
        return switch (act) {
            case 0 -> s.calls(x);
            case 1 -> s.echoes(x);
            case 2 -> s.clears(x);
            default -> s.tastes(x);
        };
    }

    int trace(int i) {
        return in(i, 0, Math.min(trace.size(), 40) - 1) ? trace.get(i) : error(NONE);
    }

    int sheet(int sheet, int bits, int n) {
        if (!in(sheet, 0, 3) || !Arrays.asList(0, 8, 16, 32).contains(bits)) return error(BEYOND);
        if (bits == 0) {
            sheets[sheet] = null;
            return 1;
        }
        if (n < 0) return error(STATE);
        if (n > 40) return error(BEYOND);
        sheets[sheet] = bits == 8 ? new byte[n] : bits == 16 ? new short[n] : new int[n];
        return 1;
    }

    int put(int sheet, int i, int v) {
        if (!in(sheet, 0, 3)) return error(BEYOND);
        if (sheets[sheet] == null) return error(NONE);
        if (!in(i, 0, length(sheet) - 1)) return error(BEYOND);
        Object row = sheets[sheet];
        if (row instanceof byte[] b) {
            b[i] = (byte) v;
        } else if (row instanceof short[] s) {
            s[i] = (short) v;
        } else {
            ((int[]) row)[i] = v;
        }
        return 1;
    }

    int move(int sheet, int i, int other, int j, int n) {
        if (!in(sheet, 0, 3) || !in(other, 0, 3)) return error(BEYOND);
        if (sheets[sheet] == null || sheets[other] == null) return error(NONE);
        if (sheets[sheet].getClass() != sheets[other].getClass()) return error(KIND);
        try {
            System.arraycopy(sheets[sheet], i, sheets[other], j, n);
        } catch (IndexOutOfBoundsException e) {
            return error(BEYOND);
        }
        return n;
    }

    int palates(int sheet) {
        if (!in(sheet, 0, 3)) return error(BEYOND);
        if (sheets[sheet] == null) return error(NONE);
        int many = 0;
        while (many < length(sheet) && many < world.folk.size() && in(number(sheet, many), 0, 99)) {
            world.folk.get(many).palate = number(sheet, many);
            many++;
        }
        return many;
    }

    int judge(int sheet) {
        if (!in(sheet, 0, 3)) return error(BEYOND);
        if (sheets[sheet] == null) return error(NONE);
        for (int i = 0; i < 41; i++) {
            boolean stands = i < length(sheet);
            boolean due = i < world.sayings.size();
            if (stands != due || stands && number(sheet, i) != world.sayings.get(i).strength) {
                return i;
            }
        }
        return -1;
    }

    int image() {
        image = world.copy();
        return ++images;
    }

    int restore() {
        if (image == null) return error(NONE);
        world = image.copy();
        return world.hour;
    }

    int tell(int v) {
        if (world.waiting.size() == 20) return error(FULL);
        world.waiting.add(v);
        return world.waiting.size();
    }

    int check() {
        World w = world.copy();
        world.waiting.clear();
        for (int i = 0; i < w.waiting.size(); i++) {
            w.passHour();
            if (w.strengths() != w.waiting.get(i)) return 1 + i;
        }
        return 0;
    }

    int count(int what) {
        if (!in(what, 0, 12)) return error(BEYOND);
        int stopped = 0;
        for (Way way : world.ways) {
            stopped |= way.stopped ? 1 << way.number : 0;
        }
        return new int[] {world.wells, world.ways.size(), world.sayings.size(), world.folk.size(), world.hour,
            world.rain, stopped, world.strengths(), world.knowing(), world.tape.length(), world.waiting.size(),
            Math.min(trace.size(), 40), world.z}[what];
    }

    /** No call of the document: what a test may tell so that check() is content. */
    int strengthsBehind(int n) {
        return world.behind(n).strengths();
    }

    int told(int k) {
        return in(k, 1, 5) ? told[k] : error(BEYOND);
    }
}
