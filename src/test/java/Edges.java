/** What the tests of boundary cases share: objects made ready for a case, and how a call may leave them. */
final class Edges {
    static final int BEYOND = Checks.BEYOND;
    static final int NONE = Checks.NONE;
    static final int STATE = Checks.STATE;
    static final int FULL = Checks.FULL;
    static final int KIND = Checks.KIND;
    static final int LEAST = Integer.MIN_VALUE;
    static final int MOST = Integer.MAX_VALUE;
    private static final int LOW = -1000000000;

    private Edges() {
    }

    /** A call (or some), and what it answers. */
    interface Act {
        int on(WellTold x);
    }

    /** How an object is made ready; made twice, it is alike. */
    interface Made {
        WellTold ready();
    }

    // ---- cases

    /** On an object made ready for it alone, the call answers what is due. */
    static void answers(String what, Made made, Act act, int due) {
        Checks.due(what, act.on(made.ready()), due);
    }

    /** On an object made ready for it alone, the call answers what is due, and so does a later one. */
    static void answers(String what, Made made, Act act, int due, Act later, int dueLater) {
        WellTold x = made.ready();
        Checks.due(what, act.on(x), due);
        Checks.due(what + ", later", later.on(x), dueLater);
    }

    /** The call answers what is due (no ERROR), and all is as it was. */
    static void onlyTells(String what, Made made, Act act, int due) {
        WellTold x = made.ready();
        WellTold twin = made.ready();
        Checks.due(what, act.on(x), due);
        for (int k = 1; k <= 5; k++) {
            Checks.due(what + ": told(" + k + ") stays", x.told(k), twin.told(k));
        }
        areAlike(what, x, twin);
    }

    /** The call answers an ERROR, which told() counts once; all else is as it was. */
    static void refused(String what, Made made, Act act, int error) {
        WellTold x = made.ready();
        WellTold twin = made.ready();
        Checks.due(what, act.on(x), error);
        for (int k = 1; k <= 5; k++) {
            int more = error == LOW - k ? 1 : 0;
            Checks.due(what + ": told(" + k + ")", x.told(k), twin.told(k) + more);
        }
        areAlike(what, x, twin);
    }

    /** Both tell the same by all calls that tell something; what is read last is used up by that. */
    static void areAlike(String what, WellTold x, WellTold twin) {
        int[] due = seen(twin);
        int[] got = seen(x);
        Checks.due(what + ": as many are seen", got.length, due.length);
        for (int i = 0; i < due.length && i < got.length; i++) {
            Checks.due(what + ": seen " + i + " stays", got[i], due[i]);
        }
    }

    // ---- what is seen of an object

    /** All that can be told of an object, its IMAGE at last. At most some 350 calls. */
    private static int[] seen(WellTold x) {
        Seen seen = new Seen();
        villageOf(x, seen);
        for (int i = 0; i < x.count(11); i++) {
            seen.add(x.trace(i));
        }
        for (int sheet = 0; sheet < 4; sheet++) {
            sheetOf(x, sheet, seen);
        }
        seen.add(x.who(2, 9));
        seen.add(x.check());
        seen.add(x.count(10));
        seen.add(x.feed('s', 1));
        seen.add(x.text(0));
        lawsOf(x, seen);
        seen.add(x.restore());
        countsOf(x, seen);
        lawsOf(x, seen);
        seen.add(x.image());
        return seen.all();
    }

    private static void countsOf(WellTold x, Seen seen) {
        for (int what = 0; what <= 12; what++) {
            seen.add(x.count(what));
        }
    }

    private static void villageOf(WellTold x, Seen seen) {
        countsOf(x, seen);
        for (int way = 0; way < x.count(1); way++) {
            for (int what = 0; what < 4; what++) {
                seen.add(x.ofWay(way, what));
            }
        }
        for (int saying = 0; saying < x.count(2); saying++) {
            for (int what = 0; what < 8; what++) {
                seen.add(x.ofSaying(saying, what));
            }
        }
        for (int one = 0; one < x.count(3); one++) {
            for (int what = 0; what < 3; what++) {
                seen.add(x.ofFolk(one, what));
            }
        }
        lawsOf(x, seen);
    }

    private static void lawsOf(WellTold x, Seen seen) {
        seen.add(x.law(0, 500, 5, 6));
        seen.add(x.law(0, 9, 7, 2));
        seen.add(x.law(1, 30, 20, 8));
        seen.add(x.law(1, 20, 30, 8));
    }

    /** How many numbers a SHEET has (found by halves), its bits by those that are like it, and its numbers. */
    private static void sheetOf(WellTold x, int sheet, Seen seen) {
        int least = -1;
        int most = 41;
        while (most - least > 1) {
            int half = (least + most) / 2;
            if (x.move(sheet, half, sheet, half, 0) == 0) {
                least = half;
            } else {
                most = half;
            }
        }
        seen.add(least);
        for (int other = 0; other < sheet; other++) {
            seen.add(x.move(sheet, 0, other, 0, 0));
        }
        seen.add(x.judge(sheet));
    }

    /** Numbers in the order in which they were seen. */
    private static final class Seen {
        private final int[] numbers = new int[512];
        private int many = 0;

        void add(int number) {
            numbers[many] = number;
            many++;
        }

        int[] all() {
            return java.util.Arrays.copyOf(numbers, many);
        }
    }

    // ---- objects made ready

    static WellTold fresh() {
        return new WellTold();
    }

    /**
     * Some of all, and room for more: 5 WELLS, 3 WAYS (1 STOPPED), SAYINGS (SAYING, LIE, LOVE) of STRENGTHS
     * 60, 50, 70 that don't weaken, 2 of FOLK, HOUR 3, RAIN 6, z 77, two TEXTS, 2 bytes, 2 numbers that wait,
     * an IMAGE of HOUR 0, THE TRACE of 4; SHEETS 0 (8 bits) and 1 (16) are the STRENGTHS, 2 (32) has as many
     * numbers as FOLK, 3 is missing.
     */
    static WellTold some() {
        WellTold x = new WellTold();
        x.wells(5);
        x.way(0, 1, 2);
        x.way(0, 2, 1);
        x.way(1, 3, 9);
        x.stop(1, 1);
        Checks.text(x, 0, "s/99");
        x.folk(1, 10);
        x.folk(2, 20);
        x.call(4, 0, 60);
        x.call(25, 2, 50);
        x.image();
        x.hours(3);
        x.call(42, 4, 70);
        x.rain(6);
        x.seed(77);
        Checks.text(x, 1, "s>p&h<9999");
        Checks.feed(x, "7*");
        x.tell(180);
        x.tell(180);
        x.voice(0, 3, 4);
        sheetOfStrengths(x, 0, 8);
        sheetOfStrengths(x, 1, 16);
        x.sheet(2, 32, 2);
        x.put(2, 0, 1);
        x.put(2, 1, -1);
        return x;
    }

    /** No room for one more: 8 WAYS, 8 SAYINGS, 6 of FOLK, 50 bytes (a TEXT), 20 numbers that wait. */
    static WellTold full() {
        WellTold x = new WellTold();
        x.wells(8);
        for (int i = 0; i < 8; i++) {
            x.way(i, (i + 1) % 8, 1 + i);
        }
        for (int i = 0; i < 8; i++) {
            x.call(10 * (i % 7) + i, i, 20 + i);
        }
        for (int i = 0; i < 6; i++) {
            x.folk(i, 10 + i);
        }
        for (int i = 0; i < 24; i++) {
            x.feed(0x2b73, 2);
        }
        x.feed(0x3231, 2);
        for (int i = 0; i < 20; i++) {
            x.tell(i);
        }
        sheetOfStrengths(x, 0, 8);
        return x;
    }

    /** HOUR is 9999, of a small village: one NAME in a WELL where somebody drinks; nobody knows it yet. */
    static WellTold last() {
        WellTold x = hour(9999);
        x.folk(0, 10);
        x.call(30, 0, 40);
        return x;
    }

    /** A new object at an HOUR. */
    static WellTold hour(int hour) {
        WellTold x = new WellTold();
        for (int left = hour; left > 0; left -= 99) {
            x.hours(Math.min(99, left));
        }
        return x;
    }

    /** One of FOLK and a NAME (STRENGTH 50) at WELL 0, with a TEXT of TASTES: who KNOWS it hangs on that alone. */
    static WellTold tasting(String tastes) {
        WellTold x = new WellTold();
        x.folk(0, 10);
        x.call(30, 0, 50);
        Checks.due("text of " + tastes, Checks.text(x, 1, tastes), 1);
        return x;
    }

    /** One SAYING (of a KIND, with m, by km) in WELL 0, of STRENGTH 50, with the TEXT of WEAKENS. */
    static WellTold weakening(int km, String weakens) {
        WellTold x = new WellTold();
        x.call(km, 0, 50);
        Checks.due("text of " + weakens, Checks.text(x, 0, weakens), 1);
        return x;
    }

    /** SAYINGS of these STRENGTHS, all in WELL 0, which all weaken by 1 an HOUR. */
    static WellTold strengths(int... v) {
        WellTold x = new WellTold();
        for (int one : v) {
            x.call(0, 0, one);
        }
        return x;
    }

    /** So many of FOLK, at WELL 0, with PALATE 10. */
    static WellTold folk(int many) {
        WellTold x = new WellTold();
        for (int i = 0; i < many; i++) {
            x.folk(0, 10);
        }
        return x;
    }

    static void numbers(WellTold x, int sheet, int bits, int... v) {
        x.sheet(sheet, bits, v.length);
        for (int i = 0; i < v.length; i++) {
            x.put(sheet, i, v[i]);
        }
    }

    private static void sheetOfStrengths(WellTold x, int sheet, int bits) {
        x.sheet(sheet, bits, x.count(2));
        for (int i = 0; i < x.count(2); i++) {
            x.put(sheet, i, x.ofSaying(i, 3));
        }
    }
}
