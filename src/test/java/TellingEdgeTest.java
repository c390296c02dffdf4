/**
 * Draws, VOICES, SHEETS, IMAGES and what is told ("Terms" 3 and 4, promises 29 to 42 of ../shared/DOC.md): for each
 * sentence that names a boundary case a test that makes just that case.
 */
public final class TellingEdgeTest {
    private static final int BEYOND = Edges.BEYOND;
    private static final int NONE = Edges.NONE;
    private static final int STATE = Edges.STATE;
    private static final int FULL = Edges.FULL;
    private static final int KIND = Edges.KIND;
    private static final int LEAST = Edges.LEAST;
    private static final int MOST = Edges.MOST;

    private TellingEdgeTest() {
    }

    public static void main(String[] args) {
        draws();
        p29Seed();
        voicesGoRound();
        bodiesOfKinds();
        p30Voice();
        p31Trace();
        p32Sheet();
        p32SheetBeyond();
        p33Put();
        p33PutBeyond();
        p34Move();
        p34MoveBeyond();
        p35Palates();
        p36Judge();
        p37Image();
        p38Restore();
        p38RestoreAll();
        p38RestoreOfFewer();
        p38RestoreWhatStays();
        p39Tell();
        p40Check();
        p41Count();
        p42Told();
        p42ToldNoErrors();
        Checks.end("TellingEdgeTest");
    }

    private static void due(String what, long got, long want) {
        Checks.due(what, got, want);
    }

    // ---- draws

    private static WellTold drawing(int z) {
        WellTold x = new WellTold();
        x.seed(z);
        return x;
    }

    private static void draws() {
        Edges.answers("Terms 3: z is 1 at first", Edges::fresh, x -> x.count(12), 1);
        Edges.answers("Terms 3: z 0: RAIN", () -> drawing(0), x -> x.loose(1), 0, x -> x.count(5), 48 % 10);
        Edges.answers("Terms 3: z 0: z", () -> drawing(0), x -> x.loose(1), 0, x -> x.count(12), 12345);
        // -1 makes -1103502900; >>> 8 of it is above 0: (4294967296 - 1103502900) / 256 = 12466657.
        Edges.answers("Terms 3: z below 0: RAIN isn't", () -> drawing(-1), x -> x.loose(1), 0, x -> x.count(5), 7);
        Edges.answers("Terms 3: z below 0: z", () -> drawing(-1), x -> x.loose(1), 0, x -> x.count(12), -1103502900);
        // The most by 1103515245 is (an int) the least less 1103515245, as it is odd.
        Edges.answers("Terms 3: z is an int, from the most", () -> drawing(MOST), x -> x.loose(1), 0,
            x -> x.count(12), LEAST - 1103515245 + 12345);
        Edges.answers("Terms 3: z is an int, from the least", () -> drawing(LEAST), x -> x.loose(1), 0,
            x -> x.count(12), LEAST + 12345);
        Edges.answers("Terms 3: HOURS that are not by draws draw none", () -> drawing(9),
            x -> x.hours(9), 0, x -> x.count(12), 9);
    }

    private static void p29Seed() {
        Edges.onlyTells("29: as it was", Edges::some, x -> x.seed(77), 77);
        Edges.answers("29: the least", Edges::some, x -> x.seed(LEAST), 77, x -> x.count(12), LEAST);
        Edges.answers("29: the most", Edges::some, x -> x.seed(MOST), 77, x -> x.count(12), MOST);
        Edges.answers("29: what it was, the least", () -> drawing(LEAST), x -> x.seed(0), LEAST);
        Edges.answers("29: what it was, as an ERROR looks", () -> drawing(BEYOND), x -> x.seed(0), BEYOND);
        Edges.answers("29: which isn't told", () -> drawing(BEYOND), x -> x.seed(0), BEYOND, x -> x.told(1), 0);
    }

    // ---- VOICES

    private static WellTold saying(int km) {
        WellTold x = new WellTold();
        x.call(0, 0, 0);
        x.call(km, 0, 0);
        return x;
    }

    private static void voicesGoRound() {
        Edges.answers("Terms 3: x + n goes round", () -> saying(0), x -> x.voice(1, 0, MOST), LEAST);
        Edges.answers("Terms 3: x - m goes round", () -> saying(9), x -> x.voice(1, 2, LEAST), MOST - 8);
        Edges.answers("Terms 3: * 2 goes round", () -> saying(0), x -> x.voice(1, 1, MOST - 1), -2);
        Edges.answers("Terms 3: * 3 goes round", () -> saying(10), x -> x.voice(1, 0, MOST - 1), MOST - 2);
        Edges.answers("Terms 3: x + 1 goes round", () -> saying(50), x -> x.voice(1, 1, MOST), 2 * (LEAST + 1) - 1);
        Edges.answers("Terms 3: the least has no other sign", () -> saying(30), x -> x.voice(1, 2, LEAST), LEAST);
        Edges.answers("Terms 3: n is the number, 0", () -> saying(0), x -> x.voice(0, 0, 5), 5);
        Edges.answers("Terms 3: n is the number, 7", Edges::full, x -> x.voice(7, 0, 5), 12);
        Edges.answers("Terms 3: m is as told, 0", () -> saying(0), x -> x.voice(1, 2, 5), 5);
        Edges.answers("Terms 3: m is as told, 9", () -> saying(9), x -> x.voice(1, 2, 5), -4);
        Edges.answers("Terms 3: m is as told by become()", () -> saying(9),
            x -> x.become(1, 3), 0, x -> x.voice(1, 2, 5), 2);
    }

    /** Of a KIND with m 3, SAYING 1: what an act answers to 5, and THE TRACE just as long as that. */
    private static void bodies(int kind, int act, int due, int... trace) {
        String what = "Terms 3: KIND " + kind + ", act " + act;
        WellTold x = saying(10 * kind + 3);
        due(what, x.voice(1, act, 5), due);
        due(what + ": BODIES", x.count(11), trace.length);
        for (int i = 0; i < trace.length; i++) {
            due(what + ": BODY " + i, x.trace(i), trace[i]);
        }
        due(what + ": none more", x.trace(trace.length), NONE);
    }

    private static void bodiesOfKinds() {
        bodies(0, 0, 6, 10);
        bodies(0, 1, 12, 11, 10);
        bodies(0, 2, 2, 12);
        bodies(0, 3, 14, 13, 11, 10, 12);
        bodies(1, 0, 18, 20, 10);
        bodies(1, 1, 36, 11, 20, 10);
        bodies(1, 2, 2, 12);
        bodies(1, 3, 38, 13, 11, 20, 10, 12);
        bodies(2, 0, 6, 10);
        bodies(2, 1, 14, 30, 11, 10, 12);
        bodies(2, 2, 2, 12);
        bodies(2, 3, 12, 13, 30, 11, 10, 12, 12);
        bodies(3, 0, 6, 10);
        bodies(3, 1, 12, 11, 10);
        bodies(3, 2, -2, 40, 12);
        bodies(3, 3, -14, 13, 11, 10, 40, 12);
        bodies(4, 0, 18, 20, 10);
        bodies(4, 1, 36, 11, 20, 10);
        bodies(4, 2, 2, 12);
        bodies(4, 3, 29, 50, 13, 11, 20, 10, 12, 20, 10);
        bodies(5, 0, 6, 10);
        bodies(5, 1, 16, 60, 30, 11, 10, 12);
        bodies(5, 2, 2, 12);
        bodies(5, 3, 18, 13, 60, 30, 11, 10, 12, 12);
        bodies(6, 0, 6, 10);
        bodies(6, 1, 12, 11, 10);
        bodies(6, 2, -1, 70, 40, 12);
        bodies(6, 3, 25, 71, 11, 10, 13, 11, 10, 70, 40, 12);
    }

    private static void p30Voice() {
        Edges.answers("30: any number, as an ERROR looks", () -> saying(0), x -> x.voice(1, 0, FULL - 1), FULL);
        Edges.answers("30: which isn't told", () -> saying(0), x -> x.voice(1, 0, FULL - 1), FULL, x -> x.told(4), 0);
        Edges.refused("30: BEYOND, act 4: THE TRACE stays", Edges::some, x -> x.voice(0, 4, 0), BEYOND);
        Edges.refused("30: BEYOND, act -1: THE TRACE stays", Edges::some, x -> x.voice(0, -1, 0), BEYOND);
        Edges.refused("30: BEYOND, SAYING 3 of 3: THE TRACE stays", Edges::some, x -> x.voice(3, 0, 0), BEYOND);
        Edges.refused("30: BEYOND, SAYING -1: THE TRACE stays", Edges::some, x -> x.voice(-1, 0, 0), BEYOND);
        Edges.refused("30: BEYOND, no SAYINGS", Edges::fresh, x -> x.voice(0, 0, 0), BEYOND);
    }

    private static void p31Trace() {
        // THE TRACE of some() is 13, 11, 10, 12.
        Edges.onlyTells("31: the first", Edges::some, x -> x.trace(0), 13);
        Edges.onlyTells("31: the last", Edges::some, x -> x.trace(3), 12);
        Edges.refused("31: NONE, one more than there are", Edges::some, x -> x.trace(4), NONE);
        Edges.refused("31: NONE, -1", Edges::some, x -> x.trace(-1), NONE);
        Edges.refused("31: NONE, 39 of fewer", Edges::some, x -> x.trace(39), NONE);
        Edges.refused("31: NONE, 40", Edges::some, x -> x.trace(40), NONE);
        Edges.refused("31: NONE, most", Edges::some, x -> x.trace(MOST), NONE);
        Edges.refused("31: NONE, there was no voice()", Edges::fresh, x -> x.trace(0), NONE);
        Edges.answers("31: of the latest alone", Edges::some, x -> x.voice(0, 0, 1), 1, x -> x.count(11), 1);
        Edges.answers("31: the first of the latest", Edges::some, x -> x.voice(0, 2, 4), 0, x -> x.trace(0), 12);
        Edges.answers("31: what the one ahead had more is gone", Edges::some, x -> x.voice(0, 0, 1), 1,
            x -> x.trace(1), NONE);
        // The longest that there is: tastes of an OATH.
        Edges.answers("31: the longest", () -> saying(60), x -> x.voice(1, 3, 0), -1, x -> x.count(11), 9);
    }

    // ---- SHEETS

    private static void p32Sheet() {
        Edges.answers("32: SHEET 3", Edges::some, x -> x.sheet(3, 8, 1), 1, x -> x.put(3, 0, 1), 1);
        Edges.answers("32: 40 numbers: the last", Edges::fresh, x -> x.sheet(0, 32, 40), 1, x -> x.put(0, 39, 1), 1);
        Edges.answers("32: 40 numbers: none more", Edges::fresh,
            x -> x.sheet(0, 32, 40), 1, x -> x.put(0, 40, 1), BEYOND);
        Edges.answers("32: 0 numbers: not missing", Edges::fresh, x -> x.sheet(0, 8, 0), 1, x -> x.judge(0), -1);
        Edges.answers("32: 0 numbers: none", Edges::fresh, x -> x.sheet(0, 8, 0), 1, x -> x.put(0, 0, 1), BEYOND);
        Edges.answers("32: 8 bits", Edges::fresh, x -> x.sheet(0, 8, 1), 1, x -> x.judge(0), 0);
        Edges.answers("32: 16 bits", Edges::fresh, x -> x.sheet(0, 16, 1), 1, x -> x.judge(0), 0);
        Edges.answers("32: 32 bits", Edges::fresh, x -> x.sheet(0, 32, 1), 1, x -> x.judge(0), 0);
        Edges.answers("32: all 0", () -> Edges.strengths(0, 0, 0), x -> x.sheet(0, 8, 3), 1, x -> x.judge(0), -1);
        Edges.answers("32: all 0, made anew", () -> {
            WellTold x = Edges.strengths(0, 0, 0);
            Edges.numbers(x, 0, 8, 1, 2, 3);
            return x;
        }, x -> x.sheet(0, 8, 3), 1, x -> x.judge(0), -1);
        Edges.answers("32: all 0, made shorter, then longer", () -> {
            WellTold x = Edges.strengths(0, 0, 0);
            Edges.numbers(x, 0, 8, 1, 2, 3);
            x.sheet(0, 8, 0);
            return x;
        }, x -> x.sheet(0, 16, 3), 1, x -> x.judge(0), -1);
        Edges.answers("32: bits 0: missing", Edges::some, x -> x.sheet(0, 0, 3), 1, x -> x.judge(0), NONE);
        Edges.answers("32: bits 0, n -1 doesn't matter", Edges::some, x -> x.sheet(0, 0, -1), 1, x -> x.judge(0), NONE);
        Edges.answers("32: bits 0, n 41 doesn't matter", Edges::some, x -> x.sheet(0, 0, 41), 1, x -> x.judge(0), NONE);
        Edges.answers("32: bits 0, n least doesn't matter", Edges::some,
            x -> x.sheet(0, 0, LEAST), 1, x -> x.told(3), 0);
        Edges.onlyTells("32: bits 0 of one that is missing", Edges::some, x -> x.sheet(3, 0, 9), 1);
        Edges.answers("32: others stay", Edges::some, x -> x.sheet(0, 0, 0), 1, x -> x.judge(1), -1);
    }

    private static void p32SheetBeyond() {
        Edges.refused("32: BEYOND, SHEET 4", Edges::some, x -> x.sheet(4, 8, 1), BEYOND);
        Edges.refused("32: BEYOND, SHEET -1", Edges::some, x -> x.sheet(-1, 8, 1), BEYOND);
        Edges.refused("32: BEYOND, SHEET 4, bits 0", Edges::some, x -> x.sheet(4, 0, 1), BEYOND);
        Edges.refused("32: BEYOND, 1 bit", Edges::some, x -> x.sheet(0, 1, 1), BEYOND);
        Edges.refused("32: BEYOND, 24 bits", Edges::some, x -> x.sheet(0, 24, 1), BEYOND);
        Edges.refused("32: BEYOND, 64 bits", Edges::some, x -> x.sheet(0, 64, 1), BEYOND);
        Edges.refused("32: BEYOND, -8 bits", Edges::some, x -> x.sheet(0, -8, 1), BEYOND);
        Edges.refused("32: BEYOND, 41 numbers", Edges::some, x -> x.sheet(0, 8, 41), BEYOND);
        Edges.refused("32: BEYOND, most numbers", Edges::some, x -> x.sheet(0, 8, MOST), BEYOND);
        Edges.refused("32: STATE, -1 numbers", Edges::some, x -> x.sheet(0, 8, -1), STATE);
        Edges.refused("32: STATE, least numbers", Edges::some, x -> x.sheet(0, 32, LEAST), STATE);
        Edges.refused("32: STATE, of one that is missing", Edges::some, x -> x.sheet(3, 16, -1), STATE);
        Edges.refused("32: BEYOND of the SHEET ahead of STATE", Edges::some, x -> x.sheet(4, 8, -1), BEYOND);
        Edges.refused("32: BEYOND of bits ahead of STATE", Edges::some, x -> x.sheet(0, 7, -1), BEYOND);
    }

    /** SHEET 0 of so many bits has one number, v; is it so much? */
    private static void lowest(String what, int bits, int v, int strength, boolean same) {
        Edges.answers("33: " + what, () -> {
            WellTold x = Edges.strengths(strength);
            x.sheet(0, bits, 1);
            return x;
        }, x -> x.put(0, 0, v), 1, x -> x.judge(0), same ? -1 : 0);
    }

    /** SHEET 0 of so many bits has one number, v; is it below 0 (then it tells of nobody)? */
    private static void below(String what, int bits, int v, boolean is) {
        Edges.answers("33: " + what, () -> {
            WellTold x = Edges.folk(1);
            x.call(0, 0, 0);
            x.sheet(0, bits, 1);
            return x;
        }, x -> x.put(0, 0, v), 1, x -> x.who(0, 0), is ? 1 : 0);
    }

    private static void p33Put() {
        lowest("8 bits of 256 are 0", 8, 256, 0, true);
        lowest("8 bits of 300 are 44", 8, 300, 44, true);
        lowest("8 bits of -212 are 44", 8, -212, 44, true);
        lowest("16 bits of 65536 are 0", 16, 65536, 0, true);
        lowest("16 bits of 65580 are 44", 16, 65580, 44, true);
        lowest("16 bits of 300 aren't 44", 16, 300, 44, false);
        lowest("32 bits of 65580 aren't 44", 32, 65580, 44, false);
        lowest("32 bits of 44", 32, 44, 44, true);
        below("8 bits of 127", 8, 127, false);
        below("8 bits of 128", 8, 128, true);
        below("8 bits of 255", 8, 255, true);
        below("8 bits of -129", 8, -129, false);
        below("16 bits of 128", 16, 128, false);
        below("16 bits of 32767", 16, 32767, false);
        below("16 bits of 32768", 16, 32768, true);
        below("16 bits of 65535", 16, 65535, true);
        below("32 bits of 32768", 32, 32768, false);
        below("32 bits of the most", 32, MOST, false);
        below("32 bits of the least", 32, LEAST, true);
        Edges.onlyTells("33: as it was", Edges::some, x -> x.put(0, 0, 60), 1);
        Edges.onlyTells("33: as it was, the last", Edges::some, x -> x.put(0, 2, 70), 1);
        Edges.answers("33: that one alone", Edges::some, x -> x.put(0, 1, 9), 1, x -> x.judge(0), 1);
    }

    private static void p33PutBeyond() {
        Edges.refused("33: BEYOND, SHEET 4", Edges::some, x -> x.put(4, 0, 1), BEYOND);
        Edges.refused("33: BEYOND, SHEET -1", Edges::some, x -> x.put(-1, 0, 1), BEYOND);
        Edges.refused("33: NONE, it is missing", Edges::some, x -> x.put(3, 0, 1), NONE);
        Edges.refused("33: NONE ahead of BEYOND of the number", Edges::some, x -> x.put(3, -1, 1), NONE);
        Edges.refused("33: BEYOND, number 3 of 3", Edges::some, x -> x.put(0, 3, 1), BEYOND);
        Edges.refused("33: BEYOND, number -1", Edges::some, x -> x.put(0, -1, 1), BEYOND);
        Edges.refused("33: BEYOND, number most", Edges::some, x -> x.put(0, MOST, 1), BEYOND);
        Edges.refused("33: BEYOND, number least", Edges::some, x -> x.put(0, LEAST, 1), BEYOND);
    }

    /** SHEETS 0 (1, 2, 3, 4, 5) and 1 (6, 7), of 8 bits; SHEET 2 of 16. */
    private static WellTold rows() {
        WellTold x = new WellTold();
        Edges.numbers(x, 0, 8, 1, 2, 3, 4, 5);
        Edges.numbers(x, 1, 8, 6, 7);
        Edges.numbers(x, 2, 16, 8);
        return x;
    }

    /** Moves, and reads both rows as STRENGTHS of SAYINGS that are called then. */
    private static void moves(String what, int sheet, int i, int other, int j, int n, int... rows) {
        WellTold x = rows();
        due("34: " + what, x.move(sheet, i, other, j, n), n);
        for (int k = 0; k < 5; k++) {
            x.call(0, 0, rows[k]);
        }
        due("34: " + what + ": SHEET 0", x.judge(0), -1);
        x.change(0, 1, rows[5]);
        x.change(1, 1, rows[6]);
        due("34: " + what + ": SHEET 1 has 2, as due", x.judge(1), 2);
    }

    private static void p34Move() {
        moves("the same, 1 up", 0, 0, 0, 1, 4, 1, 1, 2, 3, 4, 6, 7);
        moves("the same, 1 down", 0, 1, 0, 0, 4, 2, 3, 4, 5, 5, 6, 7);
        moves("the same, where they are", 0, 0, 0, 0, 5, 1, 2, 3, 4, 5, 6, 7);
        moves("the same, apart", 0, 0, 0, 3, 2, 1, 2, 3, 1, 2, 6, 7);
        moves("another, all that it has", 0, 3, 1, 0, 2, 1, 2, 3, 4, 5, 4, 5);
        moves("another, its last alone", 0, 4, 1, 1, 1, 1, 2, 3, 4, 5, 6, 5);
        moves("from the shorter", 1, 0, 0, 3, 2, 1, 2, 3, 6, 7, 6, 7);
        moves("none", 0, 0, 1, 0, 0, 1, 2, 3, 4, 5, 6, 7);
        moves("none from the end to the end", 0, 5, 1, 2, 0, 1, 2, 3, 4, 5, 6, 7);
        Edges.answers("34: 40 of 40", () -> {
            WellTold x = new WellTold();
            x.sheet(0, 32, 40);
            x.sheet(3, 32, 40);
            return x;
        }, x -> x.move(0, 0, 3, 0, 40), 40);
        Edges.answers("34: none of none", () -> {
            WellTold x = new WellTold();
            x.sheet(0, 8, 0);
            return x;
        }, x -> x.move(0, 0, 0, 0, 0), 0);
    }

    private static void p34MoveBeyond() {
        Edges.refused("34: BEYOND, SHEET 4", Edges::some, x -> x.move(4, 0, 0, 0, 1), BEYOND);
        Edges.refused("34: BEYOND, SHEET -1", Edges::some, x -> x.move(-1, 0, 0, 0, 1), BEYOND);
        Edges.refused("34: BEYOND, to SHEET 4", Edges::some, x -> x.move(0, 0, 4, 0, 1), BEYOND);
        Edges.refused("34: BEYOND, to SHEET -1", Edges::some, x -> x.move(0, 0, -1, 0, 1), BEYOND);
        Edges.refused("34: BEYOND of SHEETS ahead of NONE", Edges::some, x -> x.move(3, 0, 4, 0, 1), BEYOND);
        Edges.refused("34: NONE, the one is missing", Edges::some, x -> x.move(3, 0, 0, 0, 1), NONE);
        Edges.refused("34: NONE, the other is missing", Edges::some, x -> x.move(0, 0, 3, 0, 1), NONE);
        Edges.refused("34: NONE, both are missing", Edges::some, x -> x.move(3, 0, 3, 0, 0), NONE);
        Edges.refused("34: NONE ahead of BEYOND of n", Edges::some, x -> x.move(0, 0, 3, 0, -1), NONE);
        Edges.refused("34: KIND, 8 and 16 bits", Edges::some, x -> x.move(0, 0, 1, 0, 1), KIND);
        Edges.refused("34: KIND, 32 and 8 bits", Edges::some, x -> x.move(2, 0, 0, 0, 1), KIND);
        Edges.refused("34: KIND, though none are moved", Edges::some, x -> x.move(0, 0, 1, 0, 0), KIND);
        Edges.refused("34: KIND ahead of BEYOND of n", Edges::some, x -> x.move(0, 0, 1, 0, -1), KIND);
        Edges.refused("34: BEYOND, n -1", Edges::some, x -> x.move(0, 0, 0, 1, -1), BEYOND);
        Edges.refused("34: BEYOND, i -1", Edges::some, x -> x.move(0, -1, 0, 1, 1), BEYOND);
        Edges.refused("34: BEYOND, j -1", Edges::some, x -> x.move(0, 0, 0, -1, 1), BEYOND);
        Edges.refused("34: BEYOND, i -1, though n is 0", Edges::some, x -> x.move(0, -1, 0, 1, 0), BEYOND);
        Edges.refused("34: BEYOND, j -1, though n is 0", Edges::some, x -> x.move(0, 0, 0, -1, 0), BEYOND);
        Edges.refused("34: BEYOND, from i on 1 too few: none is moved", Edges::some,
            x -> x.move(0, 1, 0, 0, 3), BEYOND);
        Edges.refused("34: BEYOND, from j on 1 too few: none is moved", Edges::some,
            x -> x.move(0, 0, 0, 1, 3), BEYOND);
        Edges.refused("34: BEYOND, n 4 of 3", Edges::some, x -> x.move(0, 0, 0, 0, 4), BEYOND);
        Edges.refused("34: BEYOND, i 4 of 3, though n is 0", Edges::some, x -> x.move(0, 4, 0, 0, 0), BEYOND);
        Edges.refused("34: BEYOND, i + n goes round", Edges::some, x -> x.move(0, MOST, 0, 0, 1), BEYOND);
        Edges.refused("34: BEYOND, j + n goes round", Edges::some, x -> x.move(0, 0, 0, MOST, 1), BEYOND);
        Edges.refused("34: BEYOND, n most, from number 1", Edges::some, x -> x.move(0, 1, 0, 1, MOST), BEYOND);
        Edges.refused("34: BEYOND, n least", Edges::some, x -> x.move(0, 0, 0, 0, LEAST), BEYOND);
        Edges.refused("34: BEYOND, i least", Edges::some, x -> x.move(0, LEAST, 0, 0, 1), BEYOND);
    }

    /** So many of FOLK, with PALATE 10; SHEET 0 as given. */
    private static WellTold tasters(int folk, int bits, int... v) {
        WellTold x = Edges.folk(folk);
        Edges.numbers(x, 0, bits, v);
        return x;
    }

    private static void p35Palates() {
        Edges.answers("35: as many as FOLK", () -> tasters(2, 8, 0, 99), x -> x.palates(0), 2, x -> x.ofFolk(1, 1), 99);
        Edges.answers("35: PALATE 0", () -> tasters(2, 8, 0, 99), x -> x.palates(0), 2, x -> x.ofFolk(0, 1), 0);
        Edges.answers("35: up to 100", () -> tasters(3, 8, 5, 100, 6), x -> x.palates(0), 1, x -> x.ofFolk(0, 1), 5);
        Edges.answers("35: 100 is none", () -> tasters(3, 8, 5, 100, 6), x -> x.palates(0), 1, x -> x.ofFolk(1, 1), 10);
        Edges.answers("35: nor those behind", () -> tasters(3, 8, 5, 100, 6),
            x -> x.palates(0), 1, x -> x.ofFolk(2, 1), 10);
        Edges.answers("35: up to -1", () -> tasters(3, 8, 5, -1, 6), x -> x.palates(0), 1, x -> x.ofFolk(1, 1), 10);
        Edges.answers("35: no ERROR", () -> tasters(3, 8, 5, 100, 6), x -> x.palates(0), 1, x -> x.told(1), 0);
        Edges.answers("35: 256 of 32 bits is none", () -> tasters(1, 32, 256),
            x -> x.palates(0), 0, x -> x.ofFolk(0, 1), 10);
        Edges.onlyTells("35: the first is none", () -> tasters(3, 8, 100, 5, 6), x -> x.palates(0), 0);
        Edges.answers("35: there is nobody for the third", () -> tasters(2, 8, 1, 2, 3), x -> x.palates(0), 2,
            x -> x.ofFolk(1, 1), 2);
        Edges.answers("35: fewer than FOLK", () -> tasters(3, 8, 1, 2), x -> x.palates(0), 2, x -> x.ofFolk(2, 1), 10);
        Edges.answers("35: all six", () -> tasters(6, 8, 1, 2, 3, 4, 5, 6),
            x -> x.palates(0), 6, x -> x.ofFolk(5, 1), 6);
        Edges.onlyTells("35: nobody at all", () -> tasters(0, 8, 1, 2), x -> x.palates(0), 0);
        Edges.onlyTells("35: no numbers", () -> tasters(3, 8), x -> x.palates(0), 0);
        Edges.refused("35: NONE, it is missing", Edges::some, x -> x.palates(3), NONE);
        Edges.refused("35: BEYOND, SHEET 4", Edges::some, x -> x.palates(4), BEYOND);
        Edges.refused("35: BEYOND, SHEET -1", Edges::some, x -> x.palates(-1), BEYOND);
    }

    private static WellTold judged(int... v) {
        WellTold x = Edges.strengths(7, 8, 9);
        Edges.numbers(x, 0, 8, v);
        return x;
    }

    private static void p36Judge() {
        Edges.onlyTells("36: all are", () -> judged(7, 8, 9), x -> x.judge(0), -1);
        Edges.onlyTells("36: the first isn't", () -> judged(6, 8, 9), x -> x.judge(0), 0);
        Edges.onlyTells("36: the last isn't", () -> judged(7, 8, 8), x -> x.judge(0), 2);
        Edges.onlyTells("36: the first of two that aren't", () -> judged(7, 9, 8), x -> x.judge(0), 1);
        Edges.onlyTells("36: the last lacks", () -> judged(7, 8), x -> x.judge(0), 2);
        Edges.onlyTells("36: all lack", () -> judged(), x -> x.judge(0), 0);
        Edges.onlyTells("36: one is too many", () -> judged(7, 8, 9, 0), x -> x.judge(0), 3);
        Edges.onlyTells("36: two are too many: the first of them", () -> judged(7, 8, 9, 0, 0), x -> x.judge(0), 3);
        Edges.onlyTells("36: one that isn't, ahead of one too many", () -> judged(7, 9, 9, 0), x -> x.judge(0), 1);
        Edges.onlyTells("36: one that isn't, ahead of one that lacks", () -> judged(7, 9), x -> x.judge(0), 1);
        Edges.onlyTells("36: one that the SHEET had is none too many", () -> {
            WellTold x = judged(7, 8, 9, 5);
            Edges.numbers(x, 0, 8, 7, 8, 9);
            return x;
        }, x -> x.judge(0), -1);
        Edges.onlyTells("36: no numbers, no SAYINGS", () -> tasters(0, 8), x -> x.judge(0), -1);
        Edges.onlyTells("36: one number, no SAYINGS", () -> tasters(0, 8, 0), x -> x.judge(0), 0);
        Edges.onlyTells("36: all of 8", Edges::full, x -> x.judge(0), -1);
        Edges.refused("36: NONE, it is missing", Edges::some, x -> x.judge(3), NONE);
        Edges.refused("36: BEYOND, SHEET 4", Edges::some, x -> x.judge(4), BEYOND);
        Edges.refused("36: BEYOND, SHEET -1", Edges::some, x -> x.judge(-1), BEYOND);
    }

    // ---- IMAGES

    private static void p37Image() {
        Edges.answers("37: the first", Edges::fresh, x -> x.image(), 1, x -> x.image(), 2);
        Edges.answers("37: in place of the one ahead", Edges::some, x -> x.image(), 2, x -> x.restore(), 3);
        Edges.answers("37: how often isn't kept", Edges::some, x -> x.restore(), 0, x -> x.image(), 2);
        Edges.answers("37: how often, behind two of restore()", Edges::some, x -> x.restore() + x.restore(), 0,
            x -> x.image(), 2);
    }

    private static void p38Restore() {
        Edges.refused("38: NONE, there is none", Edges::full, x -> x.restore(), NONE);
        Edges.answers("38: the IMAGE stays", Edges::some, x -> x.restore(), 0, x -> x.restore(), 0);
        Edges.answers("38: HOUR", () -> imaged(9), x -> x.restore(), 9, x -> x.count(4), 9);
        Edges.answers("38: HOUR 9999", () -> {
            WellTold x = Edges.last();
            x.image();
            return x;
        }, x -> x.restore(), 9999);
        Edges.answers("38: fewer WAYS", Edges::some, x -> x.way(0, 1, 1), 3, x -> 10 * x.restore() + x.count(1), 3);
        Edges.answers("38: fewer SAYINGS", Edges::some, x -> x.restore(), 0, x -> x.count(2), 2);
        Edges.answers("38: what one KNOWS", Edges::some, x -> x.restore(), 0, x -> x.ofFolk(1, 2), 0);
        Edges.answers("38: the WAY that is STOPPED", Edges::some,
            x -> x.stop(1, 0), 1, x -> x.restore() + x.count(6), 2);
        Edges.answers("38: no TEXT of TASTES", Edges::some, x -> x.restore(), 0, x -> x.law(1, 0, 9, 0), 1);
        Edges.answers("38: the TEXT of WEAKENS", () -> {
            WellTold x = Edges.some();
            Checks.text(x, 0, "5");
            return x;
        }, x -> x.restore(), 0, x -> x.law(0, 99, 0, 0), 1);
        Edges.answers("38: THE TAPE", Edges::some, x -> x.restore(), 0, x -> x.count(9), 0);
        Edges.answers("38: numbers that wait", Edges::some, x -> x.restore(), 0, x -> x.count(10), 0);
        Edges.answers("38: RAIN", Edges::some, x -> x.restore(), 0, x -> x.count(5), 0);
        Edges.answers("38: z", Edges::some, x -> x.restore(), 0, x -> x.count(12), 1);
        Edges.answers("38: WELLS", () -> {
            WellTold x = new WellTold();
            x.image();
            x.wells(8);
            return x;
        }, x -> x.restore(), 0, x -> x.count(0), 4);
    }

    /** All of some(), with a SAYING on its way, as an IMAGE. */
    private static WellTold imagedAll() {
        WellTold x = Edges.some();
        x.hours(1);
        x.image();
        return x;
    }

    private static void p38RestoreAll() {
        WellTold x = imagedAll();
        x.stop(0, 1);
        x.stop(1, 0);
        x.way(4, 0, 1);
        x.change(0, 0, 3);
        x.change(0, 1, 9);
        x.change(1, 0, 0);
        x.become(1, 69);
        x.call(33, 3, 33);
        x.drink(0, 0, 0);
        x.drink(0, 1, 99);
        x.drink(0, 2, 14);
        x.folk(3, 1);
        x.rain(1);
        x.seed(5);
        x.tell(9);
        x.feed('2', 1);
        x.text(0);
        Checks.text(x, 1, "0");
        Checks.feed(x, "98765");
        x.loose(5);
        due("38: it was so", x.restore(), 4);
        Edges.areAlike("38: all is as the IMAGE has it", x, imagedAll());
    }

    /** Of one SAYING, known to one of two, an IMAGE; then there are eight, known to both, and some are thought of. */
    private static WellTold imagedOfOne() {
        WellTold x = Edges.folk(2);
        x.call(0, 0, 5);
        x.drink(1, 2, 1);
        x.image();
        for (int i = 1; i < 8; i++) {
            x.call(0, 0, 90);
        }
        x.drink(0, 2, 255);
        x.furthest(9, 0);
        x.restore();
        return x;
    }

    /** Of no WAYS, an IMAGE that is restored when there was one, and STOPPED. */
    private static WellTold imagedOfNoWays() {
        WellTold x = new WellTold();
        x.image();
        x.way(0, 1, 9);
        x.stop(0, 1);
        x.restore();
        return x;
    }

    private static void p38RestoreOfFewer() {
        Edges.onlyTells("38: STRENGTHS of those that there are", TellingEdgeTest::imagedOfOne, x -> x.count(7), 5);
        Edges.onlyTells("38: who KNOWS those that there are", TellingEdgeTest::imagedOfOne, x -> x.count(8), 1);
        Edges.onlyTells("38: one KNOWS those that there are", TellingEdgeTest::imagedOfOne, x -> x.ofFolk(0, 2), 0);
        Edges.onlyTells("38: and would KNOW those", TellingEdgeTest::imagedOfOne, x -> x.then(9, 0), 0);
        Edges.onlyTells("38: the furthest of those", TellingEdgeTest::imagedOfOne, x -> x.furthest(0, 1), 1);
        Edges.refused("38: SAYING 1 of 1", TellingEdgeTest::imagedOfOne, x -> x.ofSaying(1, 0), BEYOND);
        Edges.answers("38: WAY 0 anew, where it leads", TellingEdgeTest::imagedOfNoWays, x -> x.way(3, 2, 5), 0,
            x -> x.ofWay(0, 1), 2);
        Edges.answers("38: WAY 0 anew, HOURS", TellingEdgeTest::imagedOfNoWays, x -> x.way(3, 2, 5), 0,
            x -> x.ofWay(0, 2), 5);
        Edges.answers("38: WAY 0 anew isn't STOPPED", TellingEdgeTest::imagedOfNoWays, x -> x.way(3, 2, 5), 0,
            x -> x.ofWay(0, 3), 0);
        Edges.refused("38: there are no WAYS", TellingEdgeTest::imagedOfNoWays, x -> x.ofWay(0, 0), BEYOND);
        Edges.answers("38: SAYING 1 anew is known to nobody", TellingEdgeTest::imagedOfOne, x -> x.call(0, 0, 1), 1,
            x -> x.ofSaying(1, 7), 0);
    }

    private static WellTold imaged(int hour) {
        WellTold x = new WellTold();
        x.hours(hour);
        x.image();
        x.hours(1);
        return x;
    }

    private static void p38RestoreWhatStays() {
        Edges.answers("38: SHEETS stay", Edges::some, x -> x.restore(), 0, x -> x.put(0, 2, 1), 1);
        Edges.answers("38: SHEETS stay as they are since", () -> {
            WellTold x = Edges.strengths(7, 8);
            Edges.numbers(x, 0, 8, 7, 8);
            x.image();
            x.put(0, 1, 9);
            return x;
        }, x -> x.restore(), 0, x -> x.judge(0), 1);
        Edges.answers("38: one that is missing since stays so", () -> {
            WellTold x = Edges.strengths(7);
            Edges.numbers(x, 0, 8, 7);
            x.image();
            x.sheet(0, 0, 0);
            return x;
        }, x -> x.restore(), 0, x -> x.judge(0), NONE);
        Edges.answers("38: THE TRACE stays", Edges::some, x -> x.restore(), 0, x -> x.count(11), 4);
        Edges.answers("38: what told() tells stays", () -> {
            WellTold x = Edges.some();
            x.rain(10);
            return x;
        }, x -> x.restore(), 0, x -> x.told(1), 1);
        Edges.answers("38: NONE is told still, behind an IMAGE", () -> {
            WellTold x = new WellTold();
            x.restore();
            x.image();
            return x;
        }, x -> x.restore(), 0, x -> x.told(2), 1);
        Edges.answers("38: the IMAGE is not what is changed since", () -> imaged(9), x -> x.restore() + x.hours(5), 9,
            x -> x.restore(), 9);
    }

    // ---- what is told

    private static void p39Tell() {
        Edges.answers("39: the first", Edges::fresh, x -> x.tell(0), 1, x -> x.count(10), 1);
        Edges.answers("39: the 20th", () -> waiting(19), x -> x.tell(0), 20, x -> x.count(10), 20);
        Edges.refused("39: FULL, a 21st", () -> waiting(20), x -> x.tell(0), FULL);
        Edges.answers("39: any number, the least", Edges::fresh, x -> x.tell(LEAST), 1, x -> x.check(), 1);
        Edges.answers("39: any number, the most", Edges::fresh, x -> x.tell(MOST), 1, x -> x.check(), 1);
        Edges.answers("39: FULL no more, behind check()", () -> waiting(20), x -> x.check(), 0, x -> x.tell(0), 1);
    }

    private static WellTold waiting(int many) {
        WellTold x = new WellTold();
        for (int i = 0; i < many; i++) {
            x.tell(0);
        }
        return x;
    }

    /** SAYINGS of STRENGTHS 30, 2, 0, each less by 1 an HOUR; numbers that wait. */
    private static WellTold told(int... v) {
        WellTold x = Edges.strengths(30, 2, 0);
        for (int one : v) {
            x.tell(one);
        }
        return x;
    }

    private static void p40Check() {
        Edges.answers("40: none waits", () -> told(), x -> x.check(), 0, x -> x.count(10), 0);
        Edges.answers("40: behind 1 HOUR", () -> told(30), x -> x.check(), 0, x -> x.count(10), 0);
        Edges.answers("40: now isn't behind 1", () -> told(32), x -> x.check(), 1, x -> x.count(10), 0);
        Edges.answers("40: 0 at least of each", () -> told(30, 28, 27), x -> x.check(), 0, x -> x.count(10), 0);
        Edges.answers("40: the third isn't so", () -> told(30, 28, 26), x -> x.check(), 3, x -> x.count(10), 0);
        Edges.answers("40: the first of two that aren't", () -> told(30, 29, 26),
            x -> x.check(), 2, x -> x.count(10), 0);
        Edges.answers("40: none waits then, none is wrong", () -> told(31), x -> x.check(), 1, x -> x.check(), 0);
        Edges.answers("40: it begins anew", () -> told(30), x -> x.check() + x.tell(30), 1, x -> x.check(), 0);
        Edges.answers("40: all 20, no SAYINGS", () -> waiting(20), x -> x.check(), 0, x -> x.count(10), 0);
        Edges.answers("40: the 20th isn't so", () -> waiting(19), x -> x.tell(1), 20, x -> x.check(), 20);
        Edges.answers("40: only thought", () -> told(30, 28), x -> x.check(), 0, x -> x.count(7), 32);
        Edges.answers("40: no HOUR passes", () -> told(30, 28), x -> x.check(), 0, x -> x.count(4), 0);
        Edges.answers("40: no ERROR", () -> told(31), x -> x.check(), 1, x -> x.told(1), 0);
        Edges.answers("40: all 8 of 99", () -> Edges.strengths(99, 99, 99, 99, 99, 99, 99, 99), x -> x.tell(784), 1,
            x -> x.check(), 0);
    }

    private static void p41Count() {
        int[] some = {5, 3, 3, 2, 3, 6, 2, 180, 2, 2, 2, 4, 77};
        for (int what = 0; what < some.length; what++) {
            int which = what;
            Edges.onlyTells("41: what " + what, Edges::some, x -> x.count(which), some[what]);
        }
        int[] full = {8, 8, 8, 6, 0, 0, 0, 188, 0, 50, 20, 0, 1};
        for (int what = 0; what < full.length; what++) {
            int which = what;
            Edges.onlyTells("41: what " + what + ", the most", Edges::full, x -> x.count(which), full[what]);
        }
        Edges.answers("41: all 8 WAYS are STOPPED", () -> {
            WellTold x = Edges.full();
            for (int way = 0; way < 7; way++) {
                x.stop(way, 1);
            }
            return x;
        }, x -> x.stop(7, 1), 0, x -> x.count(6), 255);
        Edges.answers("41: z, as an ERROR looks", () -> drawing(NONE), x -> x.count(12), NONE, x -> x.told(2), 0);
        Edges.refused("41: BEYOND, 13", Edges::some, x -> x.count(13), BEYOND);
        Edges.refused("41: BEYOND, -1", Edges::some, x -> x.count(-1), BEYOND);
        Edges.refused("41: BEYOND, most", Edges::some, x -> x.count(MOST), BEYOND);
    }

    private static void p42Told() {
        Edges.answers("42: k 1 of none", Edges::fresh, x -> x.told(1), 0);
        Edges.answers("42: k 1", Edges::fresh, x -> x.wells(9), BEYOND, x -> x.told(1), 1);
        Edges.answers("42: k 2", Edges::fresh, x -> x.restore(), NONE, x -> x.told(2), 1);
        Edges.answers("42: k 3", Edges::some, x -> x.wells(4), STATE, x -> x.told(3), 1);
        Edges.answers("42: k 4", Edges::full, x -> x.tell(0), FULL, x -> x.told(4), 1);
        Edges.answers("42: k 5", Edges::some, x -> x.as(0, 1), KIND, x -> x.told(5), 1);
        Edges.refused("42: BEYOND, 0: counted, too", Edges::some, x -> x.told(0), BEYOND);
        Edges.refused("42: BEYOND, 6: counted, too", Edges::some, x -> x.told(6), BEYOND);
        Edges.refused("42: BEYOND, -1: counted, too", Edges::some, x -> x.told(-1), BEYOND);
        Edges.refused("42: BEYOND, most: counted, too", Edges::some, x -> x.told(MOST), BEYOND);
        Edges.answers("42: two of told(0) are two", Edges::fresh, x -> x.told(0) + x.told(0) - BEYOND, BEYOND,
            x -> x.told(1), 2);
        Edges.answers("42: told() that answers counts nothing", Edges::fresh, x -> x.told(5), 0, x -> x.told(1), 0);
    }

    /** Answers that look like an ERROR, or like none, and aren't one. */
    private static void p42ToldNoErrors() {
        for (int k = 1; k <= 5; k++) {
            int which = k;
            Edges.answers("42: z isn't told, " + k, () -> drawing(-1000000000 - which),
                x -> x.count(12), -1000000000 - k,
                x -> x.told(which), 0);
            Edges.answers("42: a VOICE isn't told, " + k, () -> saying(0), x -> x.voice(0, 0, -1000000000 - which),
                -1000000000 - k, x -> x.told(which), 0);
            Edges.answers("42: a FAULT isn't told, " + k, Edges::fresh, x -> x.text(0), -10, x -> x.told(which), 0);
            Edges.answers("42: no WAY isn't told, " + k, () -> saying(0),
                x -> x.ofSaying(0, 6), -1, x -> x.told(which), 0);
            Edges.answers("42: judge() isn't told, " + k, () -> judged(7, 8, 9),
                x -> x.judge(0), -1, x -> x.told(which), 0);
        }
    }
}
