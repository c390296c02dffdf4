import java.util.Random;

/** Long runs by fixed seeds: each answer is compared with the one of Elder. */
public final class ElderTest {
    private static final int RUNS = 440;
    private static final int CALLS = 512;
    /** A TEXT of 50 bytes, fed one by one, read and asked three times. */
    private static final int MOST_AT_ONCE = 54;

    private final Random random;
    private final WellTold x = new WellTold();
    private final Elder y = new Elder();
    private final boolean wild;
    private long got;
    private long want;
    /** Calls made on x: what it answers behind its 512th is free. */
    private int calls = 0;

    private ElderTest(long seed) {
        random = new Random(seed);
        wild = seed % 4 == 3;
    }

    public static void main(String[] args) {
        int runs = args.length > 0 ? Integer.parseInt(args[0]) : RUNS;
        for (int run = 0; run < runs; run++) {
            new ElderTest(run).run(run);
        }
        Checks.end("ElderTest");
    }

    private void run(int run) {
        setUp(run);
        for (int i = 0; calls <= CALLS - MOST_AT_ONCE; i++) {
            String call = random.nextInt(25) == 0 ? newText() : someCall(random.nextInt(42));
            Checks.due("run " + run + ", call " + i + ": " + call, got, want);
        }
    }

    private void setUp(int run) {
        if (random.nextInt(3) > 0) {
            Checks.due("run " + run + ": " + someCall(0), got, want);
        }
        int[] first = {1, 1, 1, 1, 1, 1, 5, 5, 5, 5, 5, 5, 10, 10, 10, 10};
        for (int act : first) {
            if (random.nextInt(4) > 0) {
                Checks.due("run " + run + ", ahead: " + someCall(act), got, want);
            }
        }
    }

    /** Mostly from least to most; now and then just beyond, or anything. */
    private int some(int least, int most) {
        int dice = random.nextInt(wild ? 20 : 60);
        if (dice == 0) {
            return least - 1;
        }
        if (dice == 1) {
            return most + 1;
        }
        if (dice == 2) {
            int[] far = {Integer.MIN_VALUE, Integer.MAX_VALUE, -1, 0, 1, 65536, random.nextInt()};
            return far[random.nextInt(far.length)];
        }
        return least + random.nextInt(Math.max(1, most - least + 1));
    }

    private int saying() { return some(0, Math.max(0, y.count(2) - 1)); }
    private int one() { return some(0, Math.max(0, y.count(3) - 1)); }
    private int well() { return some(0, y.count(0) - 1); }
    private int way() { return some(0, Math.max(0, y.count(1) - 1)); }
    private int sheet() { return some(0, random.nextInt(3) == 0 ? 3 : 1); }

    private int behind(int most) {
        return random.nextInt(3) == 0 ? some(0, most) : some(0, Math.min(most, 15));
    }

    private String say(String name, long... args) {
        StringBuilder s = new StringBuilder(name).append('(');
        for (int i = 0; i < args.length; i++) {
            s.append(i == 0 ? "" : ", ").append(args[i]);
        }
        return s.append(')').toString();
    }

    private String someCall(int act) {
        calls++;
        switch (act) {
            case 0: { int n = some(2, 8); got = x.wells(n); want = y.wells(n); return say("wells", n); }
            case 1: { int a = well(), b = well(), h = some(1, random.nextInt(3) == 0 ? 9 : 2);
                got = x.way(a, b, h); want = y.way(a, b, h); return say("way", a, b, h); }
            case 2: { int w = way(), k = some(0, 3); got = x.ofWay(w, k); want = y.ofWay(w, k); return say("ofWay", w, k); }
            case 3: { int w = way(), v = some(0, 1); got = x.stop(w, v); want = y.stop(w, v); return say("stop", w, v); }
            case 4: { int v = some(0, 9); got = x.rain(v); want = y.rain(v); return say("rain", v); }
            case 5: { int km = some(0, 69), w = well(), s = some(0, 99);
                got = x.call(km, w, s); want = y.call(km, w, s); return say("call", km, w, s); }
            case 6: { int s = saying(), k = some(0, 7); got = x.ofSaying(s, k); want = y.ofSaying(s, k); return say("ofSaying", s, k); }
            case 7: { int s = saying(), k = some(0, 1), v = k == 0 ? well() : some(0, 99);
                got = x.change(s, k, v); want = y.change(s, k, v); return say("change", s, k, v); }
            case 8: { int s = saying(), km = some(0, 69); got = x.become(s, km); want = y.become(s, km); return say("become", s, km); }
            case 9: { int s = saying(), k = some(0, 6); got = x.as(s, k); want = y.as(s, k); return say("as", s, k); }
            case 10: { int w = well(), p = some(0, random.nextInt(2) == 0 ? 99 : 20);
                got = x.folk(w, p); want = y.folk(w, p); return say("folk", w, p); }
            case 11: { int o = one(), k = some(0, 2); got = x.ofFolk(o, k); want = y.ofFolk(o, k); return say("ofFolk", o, k); }
            case 12: { int o = one(), k = some(0, 2);
                int v = k == 0 ? well() : k == 1 ? some(0, 99) : some(0, (1 << y.count(2)) - 1);
                got = x.drink(o, k, v); want = y.drink(o, k, v); return say("drink", o, k, v); }
            case 13: { long w = random.nextLong(); int n = some(1, 8);
                got = x.feed(w, n); want = y.feed(w, n); return say("feed", w, n); }
            case 14: { int u = some(0, 1); got = x.text(u); want = y.text(u); return say("text", u); }
            case 15: { int u = some(0, 1), a = some(0, 99), b = some(0, 9), c = some(0, 99);
                got = x.law(u, a, b, c); want = y.law(u, a, b, c); return say("law", u, a, b, c); }
            case 16: { int n = behind(99); got = x.hours(n); want = y.hours(n); return say("hours", n); }
            case 17: { int n = behind(40); got = x.loose(n); want = y.loose(n); return say("loose", n); }
            case 18: { int n = behind(99), o = one(); got = x.then(n, o); want = y.then(n, o); return say("then", n, o); }
            case 19: { int o = one(), s = saying(); got = x.learns(o, s); want = y.learns(o, s); return say("learns", o, s); }
            case 20: return someCalls();
            default: return otherCall(act);
        }
    }

    private String someCalls() {
        int most = (1 << y.count(3)) - 1;
        int s = saying();
        int n = behind(99);
        int all = some(0, most);
        int none = some(0, most);
        if (random.nextInt(8) > 0) {
            none &= ~all;
        }
        if (random.nextInt(2) == 0) {
            all &= random.nextInt();
            none &= random.nextInt();
        }
        got = x.calls(s, n, all, none);
        want = y.calls(s, n, all, none);
        return say("calls", s, n, all, none);
    }

    private String otherCall(int act) {
        switch (act) {
            case 21: { int o = one(), s = saying(), n = some(0, 10);
                got = x.stops(o, s, n); want = y.stops(o, s, n); return say("stops", o, s, n); }
            case 22: { int h = sheet(), n = behind(99); got = x.who(h, n); want = y.who(h, n); return say("who", h, n); }
            case 23: { int h = sheet(), s = saying(), n = some(0, 20), k = some(0, 1);
                got = x.loud(h, s, n, k); want = y.loud(h, s, n, k); return say("loud", h, s, n, k); }
            case 24: { int n = behind(99); got = x.alike(n); want = y.alike(n); return say("alike", n); }
            case 25: { int n = behind(99), k = some(0, 1); got = x.furthest(n, k); want = y.furthest(n, k); return say("furthest", n, k); }
            case 26: { int o = one(), s = saying(), n = behind(99), k = some(0, 1);
                got = x.odds(o, s, n, k); want = y.odds(o, s, n, k); return say("odds", o, s, n, k); }
            case 27: { int v = random.nextInt(); got = x.seed(v); want = y.seed(v); return say("seed", v); }
            case 28: { int s = saying(), a = some(0, 3), v = some(-9, 9);
                got = x.voice(s, a, v); want = y.voice(s, a, v); return say("voice", s, a, v); }
            case 29: { int i = some(0, 9); got = x.trace(i); want = y.trace(i); return say("trace", i); }
            case 30: { int h = sheet(), b = random.nextInt(9) == 0 ? some(0, 33) : 8 << random.nextInt(3);
                b = random.nextInt(12) == 0 ? 0 : b;
                int n = random.nextInt(4) > 0 ? y.count(3 - random.nextInt(2)) : some(0, 40);
                got = x.sheet(h, b, n); want = y.sheet(h, b, n); return say("sheet", h, b, n); }
            case 31: { int h = sheet(), i = some(0, 5), v = random.nextInt(5) == 0 ? some(-300, 70000) : some(-1, 1);
                got = x.put(h, i, v); want = y.put(h, i, v); return say("put", h, i, v); }
            case 32: { int h = sheet(), i = some(0, 4), o = sheet(), j = some(0, 4), n = some(0, 4);
                got = x.move(h, i, o, j, n); want = y.move(h, i, o, j, n); return say("move", h, i, o, j, n); }
            case 33: { int h = sheet(); got = x.palates(h); want = y.palates(h); return say("palates", h); }
            case 34: return someJudge();
            case 35: got = x.image(); want = y.image(); return "image()";
            case 36: got = x.restore(); want = y.restore(); return "restore()";
            case 37: return someTell();
            case 38: got = x.check(); want = y.check(); return "check()";
            case 39:
            case 40: { int k = some(0, 12); got = x.count(k); want = y.count(k); return say("count", k); }
            default: { int k = some(1, 5); got = x.told(k); want = y.told(k); return say("told", k); }
        }
    }

    private String someJudge() {
        int h = sheet();
        for (int i = 0; i < y.count(2) && random.nextInt(6) > 0; i++) {
            int strength = y.ofSaying(i, 3);
            x.put(h, i, strength);
            y.put(h, i, strength);
            calls++;
        }
        // The ERRORS of put() are told by both alike.
        got = x.judge(h);
        want = y.judge(h);
        return say("judge", h);
    }

    private String someTell() {
        int v = random.nextInt(500);
        if (random.nextInt(4) > 0) {
            Elder later = y;
            v = later.strengthsBehind(later.count(10) + 1);
        }
        got = x.tell(v);
        want = y.tell(v);
        return say("tell", v);
    }

    private String newText() {
        int use = random.nextInt(2);
        String text = textOf(0, use, 12);
        if (random.nextInt(3) == 0 && !text.isEmpty()) {
            int at = random.nextInt(text.length());
            String signs = "smrph0123456789!()|&<=>+-*/% \u00e9";
            text = text.substring(0, at) + signs.charAt(random.nextInt(signs.length()))
                + text.substring(Math.min(text.length(), at + random.nextInt(2)));
        }
        text = text.substring(0, Math.min(50, text.length()));
        calls += text.length() + 4;
        for (int i = 0; i < text.length(); i++) {
            Checks.due("feed of " + text, x.feed(text.charAt(i), 1), y.feed(text.charAt(i), 1));
        }
        got = x.text(use);
        want = y.text(use);
        for (int i = 0; i < 3; i++) {
            int a = some(0, 99), b = some(0, 9), c = some(0, 99);
            Checks.due("law behind " + text, x.law(use, a, b, c), y.law(use, a, b, c));
        }
        return "text(" + use + ") of " + text;
    }

    private String textOf(int level, int use, int room) {
        String[] signs = {"|", "&", "<=>", "+-", "*/%"};
        if (level < 5) {
            StringBuilder s = new StringBuilder(textOf(level + 1, use, room));
            int more = random.nextInt(10) < (room > 4 ? 4 : 1) ? 1 + random.nextInt(level == 2 ? 1 : 2) : 0;
            for (int i = 0; i < more; i++) {
                s.append(signs[level].charAt(random.nextInt(signs[level].length())));
                s.append(textOf(level + 1, use, room / 2));
            }
            return s.toString();
        }
        int dice = random.nextInt(10);
        if (dice == 0) {
            return "!" + textOf(5, use, room / 2);
        }
        if (dice == 1 && room > 0) {
            return "(" + textOf(0, use, room / 2) + ")";
        }
        if (dice < 5) {
            int most = new int[] {10, 100, 1000, 10000}[random.nextInt(4)];
            return Integer.toString(random.nextInt(most));
        }
        return "" + (use == 0 ? "smr" : "sph").charAt(random.nextInt(3));
    }
}
