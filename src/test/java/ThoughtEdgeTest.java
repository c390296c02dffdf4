/**
 * What would be ("Terms" 3 and promises 20 to 28 of ../shared/DOC.md): for each sentence that names a boundary case a
 * test that makes just that case. A call that tells what would be changes nothing, which is asked of each of them.
 */
public final class ThoughtEdgeTest {
    private static final int BEYOND = Edges.BEYOND;
    private static final int NONE = Edges.NONE;
    private static final int LEAST = Edges.LEAST;
    private static final int MOST = Edges.MOST;

    private ThoughtEdgeTest() {
    }

    public static void main(String[] args) {
        beyondTheLastHour();
        p20Then();
        p21Learns();
        p22Calls();
        p22CallsThere();
        p22CallsBeyond();
        p23Stops();
        p23StopsTheFewest();
        p23StopsBeyond();
        p24Who();
        p24WhoIsNotTold();
        p24WhoBeyond();
        p25Loud();
        p25LoudBehind();
        p25LoudBeyond();
        p26Alike();
        p27Furthest();
        p28Odds();
        p28OddsBeyond();
        Checks.end("ThoughtEdgeTest");
    }

    /** Tells this and changes nothing. */
    private static void tells(String what, Edges.Made made, Edges.Act act, int due) {
        Edges.onlyTells(what, made, act, due);
    }

    // ---- HOUR beyond 9999

    private static void beyondTheLastHour() {
        tells("Terms 3: HOUR beyond 9999, then", Edges::last, x -> x.then(99, 0), 1);
        tells("Terms 3: HOUR beyond 9999, learns", Edges::last, x -> x.learns(0, 0), 1);
        tells("Terms 3: HOUR beyond 9999, calls", Edges::last, x -> x.calls(0, 99, 1, 0), 1);
        tells("Terms 3: HOUR beyond 9999, stops", Edges::last, x -> x.stops(0, 0, 0), 0);
        tells("Terms 3: HOUR beyond 9999, who", ThoughtEdgeTest::lastWithSheet, x -> x.who(0, 99), 1);
        tells("Terms 3: HOUR beyond 9999, loud", ThoughtEdgeTest::lastWithSheet, x -> x.loud(0, 0, 20, 1), 10);
        tells("Terms 3: HOUR beyond 9999, alike", Edges::last, x -> x.alike(99), 0);
        tells("Terms 3: HOUR beyond 9999, furthest", Edges::last, x -> x.furthest(99, 1), 1);
        tells("Terms 3: HOUR beyond 9999, odds", Edges::last, x -> x.odds(0, 0, 99, 0), 1);
        Edges.refused("Terms 3: HOUR beyond 9999, stops where nothing stops it", Edges::last,
            x -> x.stops(0, 0, 10), NONE);
        Edges.answers("Terms 3: HOUR beyond 9999, check", Edges::last, x -> x.tell(40), 1, x -> x.check(), 0);
        Edges.answers("Terms 3: TASTES is given HOUR 10000", () -> lastTasting("h=9999+1"), x -> x.learns(0, 0), 2);
        Edges.answers("Terms 3: TASTES is given HOUR 10097", () -> lastTasting("h=9999+98"), x -> x.learns(0, 0), 99);
        Edges.answers("Terms 3: behind 99, HOUR 10098 isn't told yet", () -> lastTasting("h=9999+99"),
            x -> x.learns(0, 0), NONE);
    }

    private static WellTold lastWithSheet() {
        WellTold x = Edges.last();
        Edges.numbers(x, 0, 8, 1);
        return x;
    }

    private static WellTold lastTasting(String tastes) {
        WellTold x = Edges.last();
        Checks.text(x, 1, tastes);
        return x;
    }

    // ---- 20, 21

    private static void p20Then() {
        tells("20: behind 0 HOURS it is as now", Edges::some, x -> x.then(0, 1), 2);
        tells("20: behind 0 HOURS nothing is tasted", () -> Edges.tasting("1"), x -> x.then(0, 0), 0);
        tells("20: behind 1 HOUR", () -> Edges.tasting("1"), x -> x.then(1, 0), 1);
        tells("20: behind 98 HOURS", () -> Edges.tasting("h=98"), x -> x.then(98, 0), 0);
        tells("20: behind 99 HOURS", () -> Edges.tasting("h=98"), x -> x.then(99, 0), 1);
        tells("20: no SAYINGS", () -> Edges.folk(1), x -> x.then(99, 0), 0);
        tells("20: the last of 6", Edges::full, x -> x.then(0, 5), 0);
        Edges.refused("20: BEYOND, 100", Edges::some, x -> x.then(100, 0), BEYOND);
        Edges.refused("20: BEYOND, -1", Edges::some, x -> x.then(-1, 0), BEYOND);
        Edges.refused("20: BEYOND, most", Edges::some, x -> x.then(MOST, 0), BEYOND);
        Edges.refused("20: BEYOND, one 2 of 2", Edges::some, x -> x.then(0, 2), BEYOND);
        Edges.refused("20: BEYOND, one 6 of 6", Edges::full, x -> x.then(0, 6), BEYOND);
        Edges.refused("20: BEYOND, one -1", Edges::some, x -> x.then(0, -1), BEYOND);
        Edges.refused("20: BEYOND, nobody at all", Edges::fresh, x -> x.then(0, 0), BEYOND);
    }

    private static void p21Learns() {
        tells("21: behind 0, who KNOWS it", Edges::some, x -> x.learns(1, 1), 0);
        tells("21: behind 0, who KNOWS what none tastes any more", () -> known(0), x -> x.learns(0, 0), 0);
        tells("21: behind 1", () -> Edges.tasting("1"), x -> x.learns(0, 0), 1);
        tells("21: behind 99", () -> Edges.tasting("h=98"), x -> x.learns(0, 0), 99);
        tells("21: first, though it is tasted later, too", () -> Edges.tasting("h>4"), x -> x.learns(0, 0), 6);
        Edges.refused("21: NONE, behind 100 alone", () -> Edges.tasting("h=99"), x -> x.learns(0, 0), NONE);
        Edges.refused("21: NONE, never", () -> Edges.tasting("0"), x -> x.learns(0, 0), NONE);
        Edges.refused("21: BEYOND, one 2 of 2", Edges::some, x -> x.learns(2, 0), BEYOND);
        Edges.refused("21: BEYOND, one -1", Edges::some, x -> x.learns(-1, 0), BEYOND);
        Edges.refused("21: BEYOND, SAYING 3 of 3", Edges::some, x -> x.learns(0, 3), BEYOND);
        Edges.refused("21: BEYOND, SAYING -1", Edges::some, x -> x.learns(0, -1), BEYOND);
        Edges.refused("21: BEYOND, nobody at all", () -> Edges.strengths(1), x -> x.learns(0, 0), BEYOND);
        Edges.refused("21: BEYOND, no SAYINGS", () -> Edges.folk(1), x -> x.learns(0, 0), BEYOND);
    }

    /** One of FOLK who KNOWS a SAYING of so much STRENGTH at another WELL. */
    private static WellTold known(int strength) {
        WellTold x = new WellTold();
        x.folk(0, 99);
        x.call(0, 3, strength);
        x.drink(0, 2, 1);
        return x;
    }

    // ---- 22

    /** Four WELLS without WAYS, one of FOLK at each; a NAME at WELL 0. */
    private static WellTold apart() {
        WellTold x = new WellTold();
        for (int well = 0; well < 4; well++) {
            x.folk(well, 10);
        }
        x.call(30, 0, 50);
        return x;
    }

    private static void p22Calls() {
        tells("22: nobody is asked for: all WELLS", ThoughtEdgeTest::apart, x -> x.calls(0, 1, 0, 0), 15);
        tells("22: all of 8 WELLS", Edges::full, x -> x.calls(0, 1, 0, 0), 255);
        tells("22: of 2 WELLS", () -> {
            WellTold x = new WellTold();
            x.wells(2);
            x.call(0, 0, 0);
            return x;
        }, x -> x.calls(0, 99, 0, 0), 3);
        tells("22: one alone", ThoughtEdgeTest::apart, x -> x.calls(0, 1, 8, 7), 8);
        tells("22: two can't both", ThoughtEdgeTest::apart, x -> x.calls(0, 1, 3, 0), 0);
        tells("22: behind 0 nobody does", ThoughtEdgeTest::apart, x -> x.calls(0, 0, 1, 0), 0);
        tells("22: behind 0 nobody needs to", ThoughtEdgeTest::apart, x -> x.calls(0, 0, 0, 15), 15);
        tells("22: somebody always does", ThoughtEdgeTest::apart, x -> x.calls(0, 1, 0, 15), 0);
        tells("22: behind 98", () -> Edges.tasting("h=98"), x -> x.calls(0, 98, 1, 0), 0);
        tells("22: behind 99", () -> Edges.tasting("h=98"), x -> x.calls(0, 99, 1, 0), 1);
        tells("22: who KNOWS it already does", () -> known(0), x -> x.calls(0, 0, 1, 0), 15);
        tells("22: who KNOWS it already never doesn't", () -> known(0), x -> x.calls(0, 99, 0, 1), 0);
        tells("22: all of 6, the last", Edges::full, x -> x.calls(0, 0, 0, 63), 255);
    }

    private static void p22CallsThere() {
        // On its way to WELL 1 for 8 HOURS more: called now it would be there.
        tells("22: it is there, though on its way", ThoughtEdgeTest::onItsWay, x -> x.calls(0, 1, 1, 0), 2);
        // From WELL 0 it goes on at once: who drinks there never tastes it.
        tells("22: it is there, though it goes on", () -> {
            WellTold x = onItsWay();
            x.folk(0, 1);
            return x;
        }, x -> x.calls(0, 1, 4, 0), 0);
        tells("22: as it is now, it isn't", ThoughtEdgeTest::onItsWay, x -> x.then(1, 0), 0);
        tells("22: with the STRENGTH that it has, too weak", ThoughtEdgeTest::onItsWay, x -> x.calls(0, 1, 2, 0), 0);
    }

    /** A WAY of 9 HOURS, a SAYING of STRENGTH 48 on it; at WELL 1, its end, one 0 (PALATE 47) and one 1 (48) drink. */
    private static WellTold onItsWay() {
        WellTold x = new WellTold();
        x.wells(2);
        x.way(0, 1, 9);
        x.folk(1, 47);
        x.folk(1, 48);
        x.call(0, 0, 50);
        x.hours(2);
        return x;
    }

    private static void p22CallsBeyond() {
        Edges.refused("22: BEYOND, one in both sets", Edges::some, x -> x.calls(0, 1, 2, 2), BEYOND);
        Edges.refused("22: BEYOND, one of several in both", Edges::full, x -> x.calls(0, 1, 33, 62), BEYOND);
        Edges.refused("22: BEYOND, all: one 2 of 2", Edges::some, x -> x.calls(0, 1, 4, 0), BEYOND);
        Edges.refused("22: BEYOND, none: one 2 of 2", Edges::some, x -> x.calls(0, 1, 0, 4), BEYOND);
        Edges.refused("22: BEYOND, all: one 6 of 6", Edges::full, x -> x.calls(0, 1, 64, 0), BEYOND);
        Edges.refused("22: BEYOND, none: one 6 of 6", Edges::full, x -> x.calls(0, 1, 0, 64), BEYOND);
        Edges.refused("22: BEYOND, all -1", Edges::some, x -> x.calls(0, 1, -1, 0), BEYOND);
        Edges.refused("22: BEYOND, none -1", Edges::some, x -> x.calls(0, 1, 0, -1), BEYOND);
        Edges.refused("22: BEYOND, all least", Edges::some, x -> x.calls(0, 1, LEAST, 0), BEYOND);
        Edges.refused("22: BEYOND, all: one 0 of nobody", () -> Edges.strengths(1), x -> x.calls(0, 1, 1, 0), BEYOND);
        Edges.refused("22: BEYOND, 100", Edges::some, x -> x.calls(0, 100, 0, 0), BEYOND);
        Edges.refused("22: BEYOND, -1", Edges::some, x -> x.calls(0, -1, 0, 0), BEYOND);
        Edges.refused("22: BEYOND, SAYING 3 of 3", Edges::some, x -> x.calls(3, 1, 0, 0), BEYOND);
        Edges.refused("22: BEYOND, SAYING -1", Edges::some, x -> x.calls(-1, 1, 0, 0), BEYOND);
        Edges.refused("22: BEYOND, no SAYINGS", Edges::fresh, x -> x.calls(0, 0, 0, 0), BEYOND);
    }

    // ---- 23

    /** WAYS from WELL 0 to WELL 1 of these HOURS; one of FOLK at WELL 1; a SAYING (or of another KIND) in WELL 0. */
    private static WellTold beside(int km, int... hours) {
        WellTold x = new WellTold();
        for (int one : hours) {
            x.way(0, 1, one);
        }
        x.folk(1, 10);
        x.call(km, 0, 90);
        return x;
    }

    private static WellTold besideStopped(int way, int... hours) {
        WellTold x = beside(0, hours);
        x.stop(way, 1);
        return x;
    }

    private static void p23Stops() {
        tells("23: none is wanted, behind 0", () -> beside(0, 1), x -> x.stops(0, 0, 0), 0);
        tells("23: none is wanted, it is on its way still", () -> beside(0, 9), x -> x.stops(0, 0, 9), 0);
        tells("23: behind 10 it is there", () -> beside(0, 9), x -> x.stops(0, 0, 10), 1);
        tells("23: all of 8 WAYS", () -> beside(0, 1, 2, 3, 4, 5, 6, 7, 8), x -> x.stops(0, 0, 10), 255);
        tells("23: the eighth alone, by a LIE", () -> beside(20, 9, 9, 9, 9, 9, 9, 9, 1), x -> x.stops(0, 0, 9), 128);
        tells("23: no WAYS, none is wanted", () -> beside(0), x -> x.stops(0, 0, 10), 0);
        tells("23: a STOPPED one isn't told again", () -> besideStopped(0, 1, 1), x -> x.stops(0, 0, 10), 2);
        tells("23: all that go are STOPPED", () -> besideStopped(0, 1), x -> x.stops(0, 0, 10), 0);
        Edges.refused("23: NONE, one KNOWS it already", () -> {
            WellTold x = beside(0, 1);
            x.drink(0, 2, 1);
            return x;
        }, x -> x.stops(0, 0, 0), NONE);
        Edges.refused("23: NONE, it is there", () -> Edges.tasting("1"), x -> x.stops(0, 0, 1), NONE);
        Edges.refused("23: NONE, it is on its way", ThoughtEdgeTest::arriving, x -> x.stops(0, 0, 10), NONE);
    }

    /** It is behind the head of the only WAY already: to stop that does nothing. */
    private static WellTold arriving() {
        WellTold x = beside(0, 2);
        x.hours(1);
        return x;
    }

    private static void p23StopsTheFewest() {
        // WAYS 0 and 1 to WELL 1, WAY 2 on to WELL 3, where one drinks: to stop 2 is fewer than 0 and 1.
        tells("23: the fewest, though other sets are less", ThoughtEdgeTest::bridge, x -> x.stops(0, 0, 10), 4);
        // A chain: WAY 0 or WAY 1 or WAY 2 alone is enough.
        tells("23: of several sets of one the least", ThoughtEdgeTest::chain, x -> x.stops(0, 0, 10), 1);
        tells("23: the least that isn't STOPPED", () -> {
            WellTold x = chain();
            x.way(0, 1, 1);
            x.stop(0, 1);
            return x;
        }, x -> x.stops(0, 0, 10), 2);
        // The same, but WAY 3 goes beside 2: two have to be STOPPED, 0 and 1 or 2 and 3.
        tells("23: of several sets of two the least", () -> {
            WellTold x = bridge();
            x.way(1, 3, 1);
            return x;
        }, x -> x.stops(0, 0, 10), 3);
    }

    private static WellTold bridge() {
        WellTold x = new WellTold();
        x.way(0, 1, 1);
        x.way(0, 1, 1);
        x.way(1, 3, 1);
        x.folk(3, 10);
        x.call(0, 0, 90);
        return x;
    }

    private static WellTold chain() {
        WellTold x = new WellTold();
        x.way(0, 1, 1);
        x.way(1, 2, 1);
        x.way(2, 3, 1);
        x.folk(3, 10);
        x.call(0, 0, 90);
        return x;
    }

    private static void p23StopsBeyond() {
        Edges.refused("23: BEYOND, 11", Edges::some, x -> x.stops(0, 0, 11), BEYOND);
        Edges.refused("23: BEYOND, -1", Edges::some, x -> x.stops(0, 0, -1), BEYOND);
        Edges.refused("23: BEYOND, most", Edges::some, x -> x.stops(0, 0, MOST), BEYOND);
        Edges.refused("23: BEYOND, one 2 of 2", Edges::some, x -> x.stops(2, 0, 1), BEYOND);
        Edges.refused("23: BEYOND, one -1", Edges::some, x -> x.stops(-1, 0, 1), BEYOND);
        Edges.refused("23: BEYOND, SAYING 3 of 3", Edges::some, x -> x.stops(0, 3, 1), BEYOND);
        Edges.refused("23: BEYOND, SAYING -1", Edges::some, x -> x.stops(0, -1, 1), BEYOND);
        Edges.refused("23: BEYOND is asked ahead of NONE", () -> Edges.tasting("1"), x -> x.stops(0, 0, 11), BEYOND);
    }

    // ---- 24

    /** Two of FOLK at WELLS 0 and 1, NAMES 0 and 1 at WELLS 0 and 1, NAME 2 at WELL 3; SHEET 0 as given. */
    private static WellTold asked(int bits, int... told) {
        WellTold x = new WellTold();
        x.folk(0, 10);
        x.folk(1, 10);
        x.call(30, 0, 50);
        x.call(30, 1, 50);
        x.call(30, 3, 50);
        Edges.numbers(x, 0, bits, told);
        return x;
    }

    private static void p24Who() {
        tells("24: 1 and 0", () -> asked(8, 1, 0), x -> x.who(0, 1), 1);
        tells("24: 0 and 1", () -> asked(8, 0, 1), x -> x.who(0, 1), 2);
        tells("24: nobody", () -> asked(8, 0, 0), x -> x.who(0, 1), 4);
        tells("24: both: none can be it", () -> asked(8, 1, 1), x -> x.who(0, 1), 0);
        tells("24: behind 0", () -> asked(8, 0, 0), x -> x.who(0, 0), 7);
        tells("24: behind 98", () -> tastedAndAsked("h=98"), x -> x.who(0, 98), 0);
        tells("24: behind 99", () -> tastedAndAsked("h=98"), x -> x.who(0, 99), 1);
        tells("24: of nobody all can be it", () -> {
            WellTold x = Edges.strengths(1, 2, 3);
            x.sheet(0, 8, 0);
            return x;
        }, x -> x.who(0, 0), 7);
        tells("24: of no SAYINGS none is", () -> {
            WellTold x = Edges.folk(1);
            x.sheet(0, 8, 1);
            return x;
        }, x -> x.who(0, 0), 0);
        tells("24: all of 8 SAYINGS, SHEET 3, six of FOLK", () -> {
            WellTold x = Edges.full();
            x.sheet(3, 8, 6);
            return x;
        }, x -> x.who(3, 0), 255);
    }

    private static WellTold tastedAndAsked(String tastes) {
        WellTold x = Edges.tasting(tastes);
        Edges.numbers(x, 0, 8, 1);
        return x;
    }

    private static void p24WhoIsNotTold() {
        tells("24: -1 isn't told", () -> asked(8, 1, -1), x -> x.who(0, 1), 1);
        tells("24: -1 isn't told, of the first", () -> asked(8, -1, 0), x -> x.who(0, 1), 5);
        tells("24: none is told", () -> asked(8, -1, -1), x -> x.who(0, 1), 7);
        tells("24: the least of 8 bits", () -> asked(8, -128, -128), x -> x.who(0, 1), 7);
        tells("24: the least of 16 bits", () -> asked(16, -32768, -32768), x -> x.who(0, 1), 7);
        tells("24: the least of 32 bits", () -> asked(32, LEAST, LEAST), x -> x.who(0, 1), 7);
        tells("24: one that the SHEET had tells nothing", () -> {
            WellTold x = asked(8, 1, 0, 1);
            Edges.numbers(x, 0, 8, 1, 0);
            return x;
        }, x -> x.who(0, 1), 1);
        tells("24: 2 tells neither that one KNOWS it nor not", () -> asked(8, 2, -1), x -> x.who(0, 1), 0);
    }

    private static void p24WhoBeyond() {
        Edges.refused("24: NONE, the SHEET is missing", Edges::some, x -> x.who(3, 1), NONE);
        Edges.refused("24: NONE, one number too few", () -> asked(8, 1), x -> x.who(0, 1), NONE);
        Edges.refused("24: NONE, one number too many", () -> asked(8, 1, 0, 0), x -> x.who(0, 1), NONE);
        Edges.refused("24: NONE, no numbers", () -> asked(8), x -> x.who(0, 1), NONE);
        Edges.refused("24: NONE, missing, though there are no FOLK", Edges::fresh, x -> x.who(0, 1), NONE);
        Edges.refused("24: BEYOND, SHEET 4", Edges::some, x -> x.who(4, 1), BEYOND);
        Edges.refused("24: BEYOND, SHEET -1", Edges::some, x -> x.who(-1, 1), BEYOND);
        Edges.refused("24: BEYOND, 100", Edges::some, x -> x.who(2, 100), BEYOND);
        Edges.refused("24: BEYOND, -1", Edges::some, x -> x.who(2, -1), BEYOND);
        Edges.refused("24: BEYOND is asked ahead of NONE", Edges::some, x -> x.who(3, 100), BEYOND);
    }

    // ---- 25

    /** One of FOLK (PALATE p) at WELL 0, a NAME there; SHEET 0 tells v of him. */
    private static WellTold heard(int palate, int v) {
        WellTold x = new WellTold();
        x.folk(0, palate);
        x.call(30, 0, 50);
        Edges.numbers(x, 0, 8, v);
        return x;
    }

    private static void p25Loud() {
        tells("25: all 100 STRENGTHS", () -> heard(50, -1), x -> x.loud(0, 0, 1, 0), 100);
        tells("25: the least of all is 0", () -> heard(50, -1), x -> x.loud(0, 0, 1, 1), 0);
        tells("25: STRENGTH 99 alone", () -> heard(99, 1), x -> x.loud(0, 0, 1, 0), 1);
        tells("25: the least is 99", () -> heard(99, 1), x -> x.loud(0, 0, 1, 1), 99);
        tells("25: STRENGTH 0 alone", () -> heard(0, 0), x -> x.loud(0, 0, 1, 0), 1);
        tells("25: the least is 0", () -> heard(0, 0), x -> x.loud(0, 0, 1, 1), 0);
        tells("25: all but 0", () -> heard(0, 1), x -> x.loud(0, 0, 1, 0), 99);
        tells("25: all but 0, the least", () -> heard(0, 1), x -> x.loud(0, 0, 1, 1), 1);
        tells("25: none: how many", () -> heard(0, 2), x -> x.loud(0, 0, 1, 0), 0);
        Edges.refused("25: NONE, there is none: the least", () -> heard(0, 2), x -> x.loud(0, 0, 1, 1), NONE);
        tells("25: nobody: all 100", () -> {
            WellTold x = Edges.strengths(1);
            x.sheet(0, 8, 0);
            return x;
        }, x -> x.loud(0, 0, 20, 0), 100);
        tells("25: who KNOWS it, KNOWS it by any STRENGTH", () -> {
            WellTold x = heard(99, 1);
            x.drink(0, 2, 1);
            return x;
        }, x -> x.loud(0, 0, 0, 0), 100);
    }

    private static void p25LoudBehind() {
        tells("25: behind 0 nobody tastes it", () -> heard(0, 1), x -> x.loud(0, 0, 0, 0), 0);
        tells("25: behind 19", () -> tastedAndAsked("h=19"), x -> x.loud(0, 0, 19, 0), 0);
        tells("25: behind 20", () -> tastedAndAsked("h=19"), x -> x.loud(0, 0, 20, 0), 90);
        tells("25: where it is, on its way", ThoughtEdgeTest::onItsWayAndAsked, x -> x.loud(0, 0, 7, 0), 0);
        tells("25: as it comes there", ThoughtEdgeTest::onItsWayAndAsked, x -> x.loud(0, 0, 8, 0), 100 - 55);
        tells("25: as it comes there, the least", ThoughtEdgeTest::onItsWayAndAsked, x -> x.loud(0, 0, 8, 1), 55);
    }

    /** With 8 HOURS to go; told is that one 0 KNOWS it, not one 1: too weak would be less than 47 + 8. */
    private static WellTold onItsWayAndAsked() {
        WellTold x = onItsWay();
        Edges.numbers(x, 0, 8, 1, -1);
        return x;
    }

    private static void p25LoudBeyond() {
        Edges.refused("25: NONE, the SHEET is missing", Edges::some, x -> x.loud(3, 0, 1, 0), NONE);
        Edges.refused("25: NONE, one number too many", Edges::some, x -> x.loud(0, 0, 1, 0), NONE);
        Edges.refused("25: NONE, one number too few", () -> asked(8, 1), x -> x.loud(0, 0, 1, 0), NONE);
        Edges.refused("25: BEYOND, SHEET 4", Edges::some, x -> x.loud(4, 0, 1, 0), BEYOND);
        Edges.refused("25: BEYOND, SHEET -1", Edges::some, x -> x.loud(-1, 0, 1, 0), BEYOND);
        Edges.refused("25: BEYOND, SAYING 3 of 3", Edges::some, x -> x.loud(2, 3, 1, 0), BEYOND);
        Edges.refused("25: BEYOND, SAYING -1", Edges::some, x -> x.loud(2, -1, 1, 0), BEYOND);
        Edges.refused("25: BEYOND, 21", Edges::some, x -> x.loud(2, 0, 21, 0), BEYOND);
        Edges.refused("25: BEYOND, -1", Edges::some, x -> x.loud(2, 0, -1, 0), BEYOND);
        Edges.refused("25: BEYOND, what 2", Edges::some, x -> x.loud(2, 0, 1, 2), BEYOND);
        Edges.refused("25: BEYOND, what -1", Edges::some, x -> x.loud(2, 0, 1, -1), BEYOND);
        Edges.refused("25: BEYOND is asked ahead of NONE", Edges::some, x -> x.loud(3, 0, 21, 0), BEYOND);
        Edges.refused("25: BEYOND, what, ahead of NONE", Edges::some, x -> x.loud(3, 0, 1, 2), BEYOND);
        Edges.refused("25: BEYOND, no SAYINGS, ahead of NONE", Edges::fresh, x -> x.loud(0, 0, 1, 0), BEYOND);
    }

    // ---- 26 to 28

    private static void p26Alike() {
        tells("26: nobody", Edges::fresh, x -> x.alike(99), 0);
        tells("26: one alone makes no pair", () -> Edges.folk(1), x -> x.alike(99), 0);
        tells("26: two who KNOW nothing", () -> Edges.folk(2), x -> x.alike(99), 1);
        tells("26: all six", () -> Edges.folk(6), x -> x.alike(0), 15);
        tells("26: a like number of SAYINGS isn't the same", ThoughtEdgeTest::apartBySayings, x -> x.alike(1), 0);
        tells("26: some is not just the same", Edges::some, x -> x.alike(0), 0);
        tells("26: behind 98", ThoughtEdgeTest::oneOfTwoTastesLate, x -> x.alike(98), 1);
        tells("26: behind 99", ThoughtEdgeTest::oneOfTwoTastesLate, x -> x.alike(99), 0);
        Edges.refused("26: BEYOND, 100", Edges::some, x -> x.alike(100), BEYOND);
        Edges.refused("26: BEYOND, -1", Edges::some, x -> x.alike(-1), BEYOND);
        Edges.refused("26: BEYOND, least", Edges::some, x -> x.alike(LEAST), BEYOND);
    }

    private static WellTold apartBySayings() {
        WellTold x = new WellTold();
        x.folk(0, 1);
        x.folk(1, 1);
        x.call(30, 0, 50);
        x.call(30, 1, 50);
        return x;
    }

    private static WellTold oneOfTwoTastesLate() {
        WellTold x = Edges.tasting("h=98");
        x.folk(1, 10);
        return x;
    }

    private static void p27Furthest() {
        tells("27: known to nobody: the first", ThoughtEdgeTest::apartBySayings, x -> x.furthest(0, 0), 0);
        tells("27: known to nobody: 0", ThoughtEdgeTest::apartBySayings, x -> x.furthest(0, 1), 0);
        tells("27: no FOLK: the first", () -> Edges.strengths(1, 2), x -> x.furthest(99, 0), 0);
        tells("27: no FOLK: 0", () -> Edges.strengths(1, 2), x -> x.furthest(99, 1), 0);
        tells("27: of several the least", ThoughtEdgeTest::apartBySayings, x -> x.furthest(1, 0), 0);
        tells("27: of several, how many", ThoughtEdgeTest::apartBySayings, x -> x.furthest(1, 1), 1);
        tells("27: the last, if most KNOW it", ThoughtEdgeTest::lastIsFurthest, x -> x.furthest(1, 0), 7);
        tells("27: the first, if fewer KNOW the last", ThoughtEdgeTest::firstIsFurthest, x -> x.furthest(1, 0), 0);
        tells("27: the first, how many", ThoughtEdgeTest::firstIsFurthest, x -> x.furthest(1, 1), 2);
        tells("27: all six KNOW it", ThoughtEdgeTest::lastIsFurthest, x -> x.furthest(1, 1), 6);
        tells("27: behind 98", () -> Edges.tasting("h=98"), x -> x.furthest(98, 1), 0);
        tells("27: behind 99", () -> Edges.tasting("h=98"), x -> x.furthest(99, 1), 1);
        Edges.refused("27: NONE, there are no SAYINGS", () -> Edges.folk(6), x -> x.furthest(0, 0), NONE);
        Edges.refused("27: NONE, how many, too", () -> Edges.folk(6), x -> x.furthest(0, 1), NONE);
        Edges.refused("27: BEYOND, 100", Edges::some, x -> x.furthest(100, 0), BEYOND);
        Edges.refused("27: BEYOND, -1", Edges::some, x -> x.furthest(-1, 0), BEYOND);
        Edges.refused("27: BEYOND, what 2", Edges::some, x -> x.furthest(0, 2), BEYOND);
        Edges.refused("27: BEYOND, what -1", Edges::some, x -> x.furthest(0, -1), BEYOND);
        Edges.refused("27: BEYOND is asked ahead of NONE", Edges::fresh, x -> x.furthest(100, 0), BEYOND);
    }

    private static WellTold firstIsFurthest() {
        WellTold x = Edges.folk(2);
        x.folk(1, 10);
        x.call(30, 0, 50);
        x.call(30, 1, 50);
        return x;
    }

    private static WellTold lastIsFurthest() {
        WellTold x = Edges.folk(6);
        for (int i = 0; i < 8; i++) {
            x.call(30, i == 7 ? 0 : 1, 50);
        }
        return x;
    }

    /** Behind 1 HOUR one 0 KNOWS it only if the TEXT of WEAKENS gives 0. */
    private static WellTold rained(String weakens) {
        WellTold x = new WellTold();
        x.folk(0, 50);
        x.call(0, 0, 50);
        x.rain(3);
        Checks.due("text of " + weakens, Checks.text(x, 0, weakens), 1);
        return x;
    }

    private static void odds(String what, Edges.Made made, int n, int above, int below) {
        tells("28: " + what + ", above", made, x -> x.odds(0, 0, n, 0), above);
        tells("28: " + what + ", below", made, x -> x.odds(0, 0, n, 1), below);
    }

    private static void p28Odds() {
        odds("0 is 0 by 1", () -> rained("1"), 1, 0, 1);
        odds("10 of 10 are 1 by 1", () -> rained("0"), 1, 1, 1);
        odds("RAIN 0 is one of them", () -> rained("r>0"), 1, 1, 10);
        odds("RAIN 9 is one of them", () -> rained("r<9"), 1, 1, 10);
        odds("as much RAIN as there is", () -> rained("!(r=3)"), 1, 1, 10);
        odds("2 of 10 are 1 by 5", () -> rained("r>1"), 1, 1, 5);
        odds("3 of 10 are in lowest terms", () -> rained("r>2"), 1, 3, 10);
        odds("4 of 10 are 2 by 5", () -> rained("r>3"), 1, 2, 5);
        odds("5 of 10 are 1 by 2", () -> rained("r>4"), 1, 1, 2);
        odds("6 of 10 are 3 by 5", () -> rained("r>5"), 1, 3, 5);
        odds("8 of 10 are 4 by 5", () -> rained("r>7"), 1, 4, 5);
        odds("9 of 10 are in lowest terms", () -> rained("r>8"), 1, 9, 10);
        odds("behind 0", () -> rained("0"), 0, 0, 1);
        odds("behind 98", () -> Edges.tasting("h=98"), 98, 0, 1);
        odds("behind 99", () -> Edges.tasting("h=98"), 99, 1, 1);
        odds("who KNOWS it", () -> known(0), 0, 1, 1);
    }

    private static void p28OddsBeyond() {
        Edges.refused("28: BEYOND, part 2", Edges::some, x -> x.odds(0, 0, 1, 2), BEYOND);
        Edges.refused("28: BEYOND, part -1", Edges::some, x -> x.odds(0, 0, 1, -1), BEYOND);
        Edges.refused("28: BEYOND, 100", Edges::some, x -> x.odds(0, 0, 100, 0), BEYOND);
        Edges.refused("28: BEYOND, -1", Edges::some, x -> x.odds(0, 0, -1, 0), BEYOND);
        Edges.refused("28: BEYOND, one 2 of 2", Edges::some, x -> x.odds(2, 0, 1, 0), BEYOND);
        Edges.refused("28: BEYOND, one -1", Edges::some, x -> x.odds(-1, 0, 1, 0), BEYOND);
        Edges.refused("28: BEYOND, SAYING 3 of 3", Edges::some, x -> x.odds(0, 3, 1, 0), BEYOND);
        Edges.refused("28: BEYOND, SAYING -1", Edges::some, x -> x.odds(0, -1, 1, 0), BEYOND);
        Edges.refused("28: BEYOND, nobody at all", () -> Edges.strengths(1), x -> x.odds(0, 0, 1, 0), BEYOND);
        Edges.refused("28: BEYOND, no SAYINGS", () -> Edges.folk(1), x -> x.odds(0, 0, 1, 0), BEYOND);
    }
}
