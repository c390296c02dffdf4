/**
 * "Terms" 1 and 2 of ../shared/DOC.md: for each sentence that names a boundary case a test that makes just that case.
 */
public final class TermsEdgeTest {
    private static final int BEYOND = Edges.BEYOND;
    private static final int FULL = Edges.FULL;
    private static final int KIND = Edges.KIND;
    private static final int LEAST = Edges.LEAST;
    private static final int MOST = Edges.MOST;

    private TermsEdgeTest() {
    }

    public static void main(String[] args) {
        allCalls();
        errorsByNumber();
        quotientsAreCut();
        wells();
        ways();
        rainAndHour();
        sayings();
        kindsUnderKinds();
        folk();
        weakens();
        weakensAsTheKindAbove();
        goesOn();
        goesOnByLove();
        hourWeakens();
        hourMoves();
        hourTastes();
        hourInOrder();
        theTape();
        textOfParts();
        textOfNumbersAndNames();
        textOpen();
        textFaults();
        textWorkedOut();
        textTruth();
        uses();
        Checks.end("TermsEdgeTest");
    }

    private static void due(String what, long got, long want) {
        Checks.due(what, got, want);
    }

    // ---- ahead of 1

    private static void allCalls() {
        WellTold x = new WellTold();
        for (int i = 1; i < 512; i++) {
            x.image();
        }
        due("Terms: the 512th call is answered still", x.image(), 512);
    }

    private static void errorsByNumber() {
        Edges.answers("Terms: BEYOND is LOW - 1", Edges::fresh, x -> x.wells(1), -1000000001);
        Edges.answers("Terms: NONE is LOW - 2", Edges::fresh, x -> x.restore(), -1000000002);
        Edges.answers("Terms: STATE is LOW - 3", Edges::fresh, x -> x.sheet(0, 8, -1), -1000000003);
        Edges.answers("Terms: FULL is LOW - 4", Edges::full, x -> x.tell(0), -1000000004);
        Edges.answers("Terms: KIND is LOW - 5", Edges::some, x -> x.as(0, 1), -1000000005);
    }

    private static void quotientsAreCut() {
        law("Terms: / below 0 is cut toward 0", "s/2+9", -7, 0, 0, 6);
        law("Terms: / by less than 0 is cut toward 0", "s/m+9", 7, -2, 0, 6);
        law("Terms: / of both below 0", "s/m", -7, -2, 0, 3);
        law("Terms: % below 0 is below 0", "s%4+9", -7, 0, 0, 6);
        law("Terms: % by less than 0 is above 0", "s%m", 7, -4, 0, 3);
        Edges.answers("Terms: r/2 without a TEXT, r -1", Edges::fresh, x -> x.law(0, 0, 0, -1), 1);
        Edges.answers("Terms: r/2 without a TEXT, r 1", Edges::fresh, x -> x.law(0, 0, 0, 1), 1);
        weakensBy("Terms: v by 2 of an OATH is cut, v 3", 60, "3", 1);
    }

    // ---- 1: WELLS, WAYS, RAIN, HOUR

    private static void wells() {
        Edges.answers("Terms 1: 4 WELLS at first", Edges::fresh, x -> x.count(0), 4);
        Edges.answers("Terms 1: WELL 3 is the last at first", Edges::fresh, x -> x.folk(3, 0), 0);
        Edges.refused("Terms 1: there is no WELL 4 at first", Edges::fresh, x -> x.folk(4, 0), BEYOND);
        Edges.answers("Terms 1: 2 WELLS are the fewest", Edges::fresh, x -> x.wells(2), 4);
        Edges.refused("Terms 1: 1 WELL is too few", Edges::fresh, x -> x.wells(1), BEYOND);
        Edges.answers("Terms 1: 8 WELLS are the most", Edges::fresh, x -> x.wells(8), 4);
        Edges.refused("Terms 1: 9 WELLS are too many", Edges::fresh, x -> x.wells(9), BEYOND);
        Edges.answers("Terms 1: of 2 WELLS the last is 1", () -> withWells(2), x -> x.folk(1, 0), 0);
        Edges.refused("Terms 1: of 2 WELLS there is no 2", () -> withWells(2), x -> x.folk(2, 0), BEYOND);
        Edges.answers("Terms 1: of 8 WELLS the last is 7", () -> withWells(8), x -> x.folk(7, 0), 0);
        Edges.refused("Terms 1: of 8 WELLS there is no 8", () -> withWells(8), x -> x.folk(8, 0), BEYOND);
        Edges.refused("Terms 1: there is no WELL -1", Edges::fresh, x -> x.folk(-1, 0), BEYOND);
    }

    private static WellTold withWells(int n) {
        WellTold x = new WellTold();
        x.wells(n);
        return x;
    }

    private static WellTold withWays(int many, int hours) {
        WellTold x = new WellTold();
        for (int i = 0; i < many; i++) {
            x.way(0, 1, hours);
        }
        return x;
    }

    private static void ways() {
        Edges.answers("Terms 1: no WAYS at first", Edges::fresh, x -> x.count(1), 0);
        Edges.refused("Terms 1: there is no WAY 0 at first", Edges::fresh, x -> x.ofWay(0, 0), BEYOND);
        Edges.answers("Terms 1: the first WAY is 0", Edges::fresh, x -> x.way(0, 1, 1), 0);
        Edges.answers("Terms 1: the eighth WAY is 7", () -> withWays(7, 1), x -> x.way(0, 1, 1), 7);
        Edges.refused("Terms 1: a ninth WAY is too many", () -> withWays(8, 1), x -> x.way(0, 1, 1), FULL);
        Edges.refused("Terms 1: to another WELL, not to itself", Edges::fresh, x -> x.way(1, 1, 1), BEYOND);
        Edges.answers("Terms 1: two WAYS may be alike", () -> withWays(1, 1), x -> x.way(0, 1, 1), 1);
        Edges.answers("Terms 1: a WAY of 1 HOUR", () -> withWays(1, 1), x -> x.ofWay(0, 2), 1);
        Edges.answers("Terms 1: a WAY of 9 HOURS", () -> withWays(1, 9), x -> x.ofWay(0, 2), 9);
        Edges.refused("Terms 1: a WAY of 0 HOURS", Edges::fresh, x -> x.way(0, 1, 0), BEYOND);
        Edges.refused("Terms 1: a WAY of 10 HOURS", Edges::fresh, x -> x.way(0, 1, 10), BEYOND);
        Edges.answers("Terms 1: a WAY isn't STOPPED at first", () -> withWays(1, 1), x -> x.ofWay(0, 3), 0);
        Edges.answers("Terms 1: none of 8 WAYS is STOPPED at first", () -> withWays(8, 1), x -> x.count(6), 0);
        Edges.answers("Terms 1: the eighth WAY can be STOPPED", () -> withWays(8, 1),
            x -> x.stop(7, 1), 0, x -> x.count(6), 128);
    }

    private static void rainAndHour() {
        Edges.answers("Terms 1: RAIN is 0 at first", Edges::fresh, x -> x.count(5), 0);
        Edges.answers("Terms 1: RAIN 9 is the most", Edges::fresh, x -> x.rain(9), 0, x -> x.count(5), 9);
        Edges.refused("Terms 1: RAIN 10", Edges::some, x -> x.rain(10), BEYOND);
        Edges.answers("Terms 1: RAIN 0 is the least", Edges::some, x -> x.rain(0) * 10 + x.count(5), 60);
        Edges.refused("Terms 1: RAIN -1", Edges::some, x -> x.rain(-1), BEYOND);
        Edges.answers("Terms 1: HOUR is 0 at first", Edges::fresh, x -> x.count(4), 0);
        Edges.answers("Terms 1: HOUR 9999 is the last", Edges::last, x -> x.count(4), 9999);
    }

    // ---- 1: SAYINGS, FOLK

    private static WellTold withSaying(int km, int well, int strength) {
        WellTold x = new WellTold();
        x.call(km, well, strength);
        return x;
    }

    private static void sayings() {
        Edges.answers("Terms 1: no SAYINGS at first", Edges::fresh, x -> x.count(2), 0);
        Edges.refused("Terms 1: there is no SAYING 0 at first", Edges::fresh, x -> x.ofSaying(0, 0), BEYOND);
        Edges.answers("Terms 1: the eighth SAYING is 7", () -> Edges.strengths(1, 2, 3, 4, 5, 6, 7),
            x -> x.call(0, 0, 8), 7);
        Edges.refused("Terms 1: a ninth SAYING is too many", () -> Edges.strengths(1, 2, 3, 4, 5, 6, 7, 8),
            x -> x.call(0, 0, 9), FULL);
        Edges.answers("Terms 1: KIND 0 is the first", () -> withSaying(9, 0, 0), x -> x.ofSaying(0, 0), 0);
        Edges.answers("Terms 1: m 9 is the most", () -> withSaying(9, 0, 0), x -> x.ofSaying(0, 1), 9);
        Edges.answers("Terms 1: behind m 9 comes the next KIND", () -> withSaying(10, 0, 0), x -> x.ofSaying(0, 0), 1);
        Edges.answers("Terms 1: and m 0", () -> withSaying(10, 0, 0), x -> x.ofSaying(0, 1), 0);
        Edges.answers("Terms 1: KIND 6 is the last", () -> withSaying(69, 0, 0), x -> x.ofSaying(0, 0), 6);
        Edges.answers("Terms 1: KIND 6 with m 9", () -> withSaying(69, 0, 0), x -> x.ofSaying(0, 1), 9);
        Edges.refused("Terms 1: there is no KIND 7", Edges::fresh, x -> x.call(70, 0, 0), BEYOND);
        Edges.refused("Terms 1: there is no KIND below 0", Edges::fresh, x -> x.call(-1, 0, 0), BEYOND);
        Edges.answers("Terms 1: STRENGTH 0", () -> withSaying(0, 0, 0), x -> x.ofSaying(0, 3), 0);
        Edges.answers("Terms 1: STRENGTH 99", () -> withSaying(0, 0, 99), x -> x.ofSaying(0, 3), 99);
        Edges.refused("Terms 1: STRENGTH 100", Edges::fresh, x -> x.call(0, 0, 100), BEYOND);
        Edges.refused("Terms 1: STRENGTH -1", Edges::fresh, x -> x.call(0, 0, -1), BEYOND);
        Edges.answers("Terms 1: a SAYING is there at first", () -> withSaying(0, 0, 0), x -> x.ofSaying(0, 4), 0);
        Edges.answers("Terms 1: AT WELL 3", () -> withSaying(0, 3, 0), x -> x.ofSaying(0, 2), 3);
        Edges.refused("Terms 1: AT WELL 4 of 4", Edges::fresh, x -> x.call(0, 4, 0), BEYOND);
    }

    private static void kindsUnderKinds() {
        // For each KIND (0 SAYING, .., 6 OATH): as which KINDS it counts.
        String[] counts = {"0", "01", "02", "03", "014", "025", "036"};
        for (int kind = 0; kind < 7; kind++) {
            int km = 10 * kind + 8;
            for (int other = 0; other < 7; other++) {
                int as = other;
                String what = "Terms 1: one of KIND " + kind + " as one of KIND " + other;
                if (counts[kind].indexOf('0' + other) >= 0) {
                    Edges.onlyTells(what, () -> withSaying(km, 0, 0), x -> x.as(0, as), 8);
                } else {
                    Edges.refused(what, () -> withSaying(km, 0, 0), x -> x.as(0, as), KIND);
                }
            }
        }
    }

    private static void folk() {
        Edges.answers("Terms 1: no FOLK at first", Edges::fresh, x -> x.count(3), 0);
        Edges.refused("Terms 1: there is no one 0 at first", Edges::fresh, x -> x.ofFolk(0, 0), BEYOND);
        Edges.answers("Terms 1: the sixth of FOLK is 5", () -> Edges.folk(5), x -> x.folk(0, 0), 5);
        Edges.refused("Terms 1: a seventh of FOLK is too many", () -> Edges.folk(6), x -> x.folk(0, 0), FULL);
        Edges.answers("Terms 1: PALATE 0", Edges::fresh, x -> x.folk(0, 0), 0, x -> x.ofFolk(0, 1), 0);
        Edges.answers("Terms 1: PALATE 99", Edges::fresh, x -> x.folk(0, 99), 0, x -> x.ofFolk(0, 1), 99);
        Edges.refused("Terms 1: PALATE 100", Edges::fresh, x -> x.folk(0, 100), BEYOND);
        Edges.refused("Terms 1: PALATE -1", Edges::fresh, x -> x.folk(0, -1), BEYOND);
        Edges.answers("Terms 1: one KNOWS nothing at first", Edges::some, x -> x.folk(0, 0), 2, x -> x.ofFolk(2, 2), 0);
    }

    // ---- 1: WEAKENS

    private static void weakensBy(String what, int km, String text, int due) {
        Edges.onlyTells(what, () -> Edges.weakening(km, text), x -> x.ofSaying(0, 5), due);
    }

    private static void weakens() {
        weakensBy("Terms 1: SAYING, v 0", 0, "0", 0);
        weakensBy("Terms 1: SAYING, v 99", 0, "99", 99);
        weakensBy("Terms 1: SECRET, v 0: 0 at least", 10, "0", 0);
        weakensBy("Terms 1: SECRET, v 1", 10, "1", 0);
        weakensBy("Terms 1: SECRET, v 2", 10, "2", 1);
        weakensBy("Terms 1: SECRET, v 99", 10, "99", 98);
        weakensBy("Terms 1: LIE, v 0", 20, "0", 0);
        weakensBy("Terms 1: LIE, v 99: beyond all STRENGTH", 20, "99", 198);
        weakensBy("Terms 1: NAME, v 0", 30, "0", 0);
        weakensBy("Terms 1: NAME, v 99", 30, "99", 0);
        weakensBy("Terms 1: LOVE, m 0, v 0", 40, "0", 0);
        weakensBy("Terms 1: LOVE, m 2, v 0: 0 at least", 42, "0", 0);
        weakensBy("Terms 1: LOVE, m 2, v 2: 0 at least", 42, "2", 0);
        weakensBy("Terms 1: LOVE, m 2, v 3", 42, "3", 0);
        weakensBy("Terms 1: LOVE, m 2, v 4", 42, "4", 1);
        weakensBy("Terms 1: LOVE, m 1, v 3", 41, "3", 1);
        weakensBy("Terms 1: LOVE, m 3: no rest by 3", 43, "4", 3);
        weakensBy("Terms 1: LOVE, m 9: no rest by 3", 49, "4", 3);
        weakensBy("Terms 1: LOVE, m 8: the rest 2", 48, "4", 1);
        weakensBy("Terms 1: QUARREL, v 0", 50, "0", 1);
        weakensBy("Terms 1: QUARREL, v 99", 50, "99", 199);
        weakensBy("Terms 1: OATH, v 0", 60, "0", 0);
        weakensBy("Terms 1: OATH, v 1: cut", 60, "1", 0);
        weakensBy("Terms 1: OATH, v 2", 60, "2", 1);
        weakensBy("Terms 1: OATH, v 99: cut", 60, "99", 49);
    }

    private static void weakensAsTheKindAbove() {
        weakensBy("Terms 1: LOVE with m 0 as SECRET", 40, "7", 6);
        weakensBy("Terms 1: QUARREL as LIE, and 1", 57, "7", 15);
        weakensBy("Terms 1: OATH as NAME, and v by 2", 67, "7", 3);
        weakensBy("Terms 1: m bears on LOVE alone: SECRET", 12, "7", 6);
        weakensBy("Terms 1: m bears on LOVE alone: LIE", 22, "7", 14);
        weakensBy("Terms 1: v is what the TEXT gives, held below", 0, "s-99", 0);
        weakensBy("Terms 1: v is what the TEXT gives, held above", 0, "s*2", 99);
        weakensBy("Terms 1: the TEXT is given m", 6, "m", 6);
        Edges.onlyTells("Terms 1: the TEXT is given RAIN", () -> {
            WellTold x = Edges.weakening(0, "r");
            x.rain(8);
            return x;
        }, x -> x.ofSaying(0, 5), 8);
    }

    // ---- 1: GOES ON

    /** A SAYING of each KIND in WELL 0, from which WAYS 1, 2, 4 go (of 0 to 4), with some of them STOPPED. */
    private static WellTold crossing(int stopped) {
        WellTold x = new WellTold();
        x.way(1, 0, 1);
        x.way(0, 1, 1);
        x.way(0, 2, 1);
        x.way(2, 3, 1);
        x.way(0, 3, 1);
        for (int way = 0; way < 5; way++) {
            x.stop(way, stopped >> way & 1);
        }
        for (int kind = 0; kind < 7; kind++) {
            x.call(10 * kind, 0, 50);
        }
        return x;
    }

    private static void goesOnBy(String what, Edges.Made made, int... due) {
        for (int kind = 0; kind < 7; kind++) {
            int saying = kind;
            Edges.onlyTells(what + ", KIND " + kind, made, x -> x.ofSaying(saying, 6), due[kind]);
        }
    }

    private static void goesOn() {
        goesOnBy("Terms 1: of three WAYS", () -> crossing(0), 1, 1, 4, -1, 1, 4, 1);
        goesOnBy("Terms 1: the first is STOPPED", () -> crossing(2), 2, 2, 4, -1, 2, 4, 2);
        goesOnBy("Terms 1: the last is STOPPED", () -> crossing(16), 1, 1, 2, -1, 1, 2, 1);
        goesOnBy("Terms 1: one alone isn't STOPPED", () -> crossing(18), 2, 2, 2, -1, 2, 2, 2);
        goesOnBy("Terms 1: all are STOPPED", () -> crossing(22), -1, -1, -1, -1, -1, -1, -1);
        goesOnBy("Terms 1: WAY 0 alone", () -> {
            WellTold x = new WellTold();
            x.way(0, 1, 1);
            for (int kind = 0; kind < 7; kind++) {
                x.call(10 * kind, 0, 50);
            }
            return x;
        }, 0, 0, 0, -1, 0, 0, 0);
        goesOnBy("Terms 1: no WAYS", () -> {
            WellTold x = new WellTold();
            for (int kind = 0; kind < 7; kind++) {
                x.call(10 * kind, 0, 50);
            }
            return x;
        }, -1, -1, -1, -1, -1, -1, -1);
        goesOnBy("Terms 1: WAYS to it alone", () -> {
            WellTold x = crossing(0);
            for (int saying = 0; saying < 7; saying++) {
                x.change(saying, 0, 3);
            }
            return x;
        }, -1, -1, -1, -1, -1, -1, -1);
    }

    /** A LOVE in WELL 0, from which WAY 0 goes; FOLK at WELLS, and who KNOWS it, as a set. */
    private static WellTold love(int known, int... wells) {
        WellTold x = new WellTold();
        x.way(0, 1, 1);
        x.call(40, 0, 50);
        for (int one = 0; one < wells.length; one++) {
            x.folk(wells[one], 99);
            x.drink(one, 2, known >> one & 1);
        }
        return x;
    }

    private static void goesOnByLove() {
        Edges.onlyTells("Terms 1: LOVE where nobody drinks", () -> love(0), x -> x.ofSaying(0, 6), 0);
        Edges.onlyTells("Terms 1: LOVE, one drinks elsewhere", () -> love(0, 1, 2), x -> x.ofSaying(0, 6), 0);
        Edges.onlyTells("Terms 1: LOVE, one drinks there", () -> love(0, 0), x -> x.ofSaying(0, 6), -1);
        Edges.onlyTells("Terms 1: LOVE, one who KNOWS it", () -> love(1, 0), x -> x.ofSaying(0, 6), 0);
        Edges.onlyTells("Terms 1: LOVE, the second KNOWS it not", () -> love(1, 0, 0), x -> x.ofSaying(0, 6), -1);
        Edges.onlyTells("Terms 1: LOVE, the first KNOWS it not", () -> love(2, 0, 0), x -> x.ofSaying(0, 6), -1);
        Edges.onlyTells("Terms 1: LOVE, six who KNOW it", () -> love(63, 0, 0, 0, 0, 0, 0), x -> x.ofSaying(0, 6), 0);
        Edges.onlyTells("Terms 1: LOVE, the sixth KNOWS it not", () -> love(31, 0, 0, 0, 0, 0, 0),
            x -> x.ofSaying(0, 6), -1);
        Edges.answers("Terms 1: LOVE, who drinks there KNOWS another", () -> love(0, 0), x -> {
            x.call(0, 0, 1);
            x.drink(0, 2, 2);
            return x.ofSaying(0, 6);
        }, -1);
        Edges.answers("Terms 1: SECRET, though one drinks there", () -> love(0, 0), x -> {
            x.become(0, 10);
            return x.ofSaying(0, 6);
        }, 0);
    }

    // ---- 1: an HOUR

    private static void strengthBehindOne(String what, int strength, String weakens, int due) {
        Edges.answers(what, () -> withSaying(0, 0, strength), x -> {
            Checks.text(x, 0, weakens);
            x.hours(1);
            return x.ofSaying(0, 3);
        }, due);
    }

    private static void hourWeakens() {
        strengthBehindOne("Terms 1: STRENGTH 6 less 5", 6, "5", 1);
        strengthBehindOne("Terms 1: STRENGTH 5 less 5", 5, "5", 0);
        strengthBehindOne("Terms 1: STRENGTH 4 less 5: 0 at least", 4, "5", 0);
        strengthBehindOne("Terms 1: STRENGTH 0 less 5: 0 at least", 0, "5", 0);
        strengthBehindOne("Terms 1: STRENGTH 99 less 99", 99, "99", 0);
        strengthBehindOne("Terms 1: STRENGTH 99 less 0", 99, "0", 99);
        Edges.answers("Terms 1: a LIE is less by 198: 0 at least", () -> withSaying(20, 0, 99), x -> {
            Checks.text(x, 0, "99");
            x.hours(1);
            return x.ofSaying(0, 3);
        }, 0);
    }

    /** WELLS 0 to 1 by a WAY of so many HOURS, 1 to 2 by one of 1; a SAYING in WELL 0. */
    private static WellTold underground(int hours) {
        WellTold x = new WellTold();
        x.way(0, 1, hours);
        x.way(1, 2, 1);
        x.call(0, 0, 50);
        return x;
    }

    /** AT, and HOURS on its way, behind n HOURS. */
    private static void placeBehind(String what, Edges.Made made, int n, int at, int hoursLeft) {
        Edges.answers(what, made, x -> {
            x.hours(n);
            return x.ofSaying(0, 2);
        }, at, x -> x.ofSaying(0, 4), hoursLeft);
    }

    private static void hourMoves() {
        placeBehind("Terms 1: a WAY of 1 HOUR: on its way", () -> underground(1), 1, 1, 1);
        placeBehind("Terms 1: a WAY of 1 HOUR: there", () -> underground(1), 2, 1, 0);
        placeBehind("Terms 1: it goes on an HOUR after", () -> underground(1), 3, 2, 1);
        placeBehind("Terms 1: a WAY of 9 HOURS: on its way", () -> underground(9), 1, 1, 9);
        placeBehind("Terms 1: a WAY of 9 HOURS: the last of them", () -> underground(9), 9, 1, 1);
        placeBehind("Terms 1: a WAY of 9 HOURS: there", () -> underground(9), 10, 1, 0);
        placeBehind("Terms 1: where no WAY goes it stays", () -> underground(1), 9, 2, 0);
        placeBehind("Terms 1: a NAME stays", () -> {
            WellTold x = underground(1);
            x.become(0, 30);
            return x;
        }, 9, 0, 0);
        placeBehind("Terms 1: a STOPPED WAY isn't gone", () -> {
            WellTold x = underground(1);
            x.stop(0, 1);
            return x;
        }, 9, 0, 0);
        placeBehind("Terms 1: STOPPED behind it, a WAY is gone to its end", () -> {
            WellTold x = underground(3);
            x.hours(1);
            x.stop(0, 1);
            return x;
        }, 3, 1, 0);
        placeBehind("Terms 1: without STRENGTH it goes on, too", () -> {
            WellTold x = underground(1);
            x.change(0, 1, 0);
            return x;
        }, 3, 2, 1);
    }

    /** One of FOLK (PALATE p) at WELL 1, and a NAME there of so much STRENGTH: who KNOWS it behind 1 HOUR. */
    private static void tasted(String what, int strength, int palate, int due) {
        Edges.answers(what, () -> withSaying(30, 1, strength), x -> {
            x.folk(1, palate);
            x.hours(1);
            return x.ofSaying(0, 7);
        }, due);
    }

    private static void hourTastes() {
        tasted("Terms 1: STRENGTH is PALATE", 40, 40, 1);
        tasted("Terms 1: STRENGTH is 1 less than PALATE", 39, 40, 0);
        tasted("Terms 1: STRENGTH is 1 more than PALATE", 41, 40, 1);
        tasted("Terms 1: STRENGTH 99, PALATE 99", 99, 99, 1);
        tasted("Terms 1: STRENGTH 98, PALATE 99", 98, 99, 0);
        tasted("Terms 1: STRENGTH 1, PALATE 0", 1, 0, 1);
        tasted("Terms 1: STRENGTH 0, PALATE 0: 1 at least", 0, 0, 0);
        tasted("Terms 1: STRENGTH 1, PALATE 1", 1, 1, 1);
        Edges.answers("Terms 1: at another WELL", () -> withSaying(30, 1, 50),
            x -> x.folk(0, 0), 0, x -> x.hours(1), 0);
        Edges.answers("Terms 1: the last HOUR on its way", () -> underground(2),
            x -> x.folk(1, 1), 0, x -> x.hours(2), 0);
        Edges.answers("Terms 1: as it comes there", () -> underground(2), x -> x.folk(1, 1), 0, x -> x.hours(3), 1);
        Edges.answers("Terms 1: where it goes away from", () -> underground(2),
            x -> x.folk(0, 1), 0, x -> x.hours(9), 0);
        Edges.answers("Terms 1: the other TEXT gives 0", () -> Edges.tasting("0"), x -> x.hours(1), 0);
        Edges.answers("Terms 1: the other TEXT gives 1", () -> Edges.tasting("1"), x -> x.hours(1), 1);
        Edges.answers("Terms 1: the other TEXT gives 2", () -> Edges.tasting("2"), x -> x.hours(1), 1);
        Edges.answers("Terms 1: the other TEXT gives -1", () -> Edges.tasting("0-1"), x -> x.hours(1), 0);
        Edges.answers("Terms 1: the other TEXT can't lower PALATE", () -> Edges.tasting("1"), x -> {
            x.drink(0, 1, 51);
            return x.hours(1);
        }, 0);
        Edges.answers("Terms 1: all SAYINGS that are there, at once", () -> withSaying(30, 0, 50), x -> {
            for (int i = 1; i < 8; i++) {
                x.call(30, 0, 50);
            }
            x.folk(0, 50);
            x.hours(1);
            return x.ofFolk(0, 2);
        }, 255);
        Edges.answers("Terms 1: all of FOLK who drink there, at once", () -> Edges.folk(6), x -> {
            x.call(30, 0, 10);
            x.hours(1);
            return x.ofSaying(0, 7);
        }, 63);
    }

    private static void hourInOrder() {
        Edges.answers("Terms 1: it weakens ahead of being tasted", () -> withSaying(0, 0, 40),
            x -> x.folk(0, 40), 0, x -> x.hours(1), 0);
        Edges.answers("Terms 1: weakened to PALATE it is tasted", () -> withSaying(0, 0, 40),
            x -> x.folk(0, 39), 0, x -> x.hours(1), 1);
        Edges.answers("Terms 1: weakened to 0 it isn't", () -> withSaying(0, 0, 1),
            x -> x.folk(0, 0), 0, x -> x.hours(1), 0);
        Edges.answers("Terms 1: WEAKENS is given STRENGTH as it was", () -> withSaying(0, 0, 40), x -> {
            Checks.text(x, 0, "7*(s=40)");
            x.hours(1);
            return x.ofSaying(0, 3);
        }, 33);
        Edges.answers("Terms 1: TASTES is given STRENGTH as weakened", () -> Edges.tasting("s=49"), x -> {
            x.become(0, 0);
            return x.hours(1);
        }, 1);
        Edges.answers("Terms 1: TASTES is given HOUR ahead of 1 more", () -> Edges.tasting("h=0"), x -> x.hours(1), 1);
        Edges.answers("Terms 1: and not HOUR behind it", () -> Edges.tasting("h=1"), x -> x.hours(1), 0);
        Edges.answers("Terms 1: TASTES is given the PALATE of each", () -> Edges.tasting("p=20"), x -> {
            x.folk(0, 20);
            x.hours(1);
            return x.ofSaying(0, 7);
        }, 2);
        Edges.answers("Terms 1: LOVE is tasted behind going on: it stays", () -> love(0, 0), x -> {
            x.drink(0, 1, 0);
            return x.hours(1);
        }, 1, x -> x.ofSaying(0, 2), 0);
        Edges.answers("Terms 1: and goes on an HOUR after", () -> love(0, 0), x -> {
            x.drink(0, 1, 0);
            return x.hours(2);
        }, 1, x -> x.ofSaying(0, 2), 1);
        Edges.answers("Terms 1: HOUR is 1 more", Edges::fresh, x -> x.hours(1), 0, x -> x.count(4), 1);
        Edges.answers("Terms 1: what one KNOWS is not lost", () -> Edges.tasting("h=0"), x -> x.hours(99), 1);
    }

    // ---- 2: THE TAPE, TEXTS

    private static WellTold tape(int bytes) {
        WellTold x = new WellTold();
        for (int i = 0; i < bytes; i++) {
            x.feed('7', 1);
        }
        return x;
    }

    private static void theTape() {
        Edges.answers("Terms 2: the 50th byte", () -> tape(49), x -> x.feed('7', 1), 50);
        Edges.refused("Terms 2: a 51st byte", () -> tape(50), x -> x.feed('7', 1), FULL);
        Edges.answers("Terms 2: eight up to 50", () -> tape(42), x -> x.feed(0, 8), 50);
        Edges.refused("Terms 2: eight of which one is too many", () -> tape(43), x -> x.feed(0, 8), FULL);
        reads("Terms 2: a TEXT of 50 bytes", "s+m+r+s+m+r+s+m+r+s+m+r+s+m+r+s+m+r+s+m+r+s+m+r+10");
        reads("Terms 2: a TEXT of 1 byte", "s");
        faultAt("Terms 2: a TEXT of 0 bytes", "", 0);
    }

    /** A USE that has a TEXT already (it gives 7), and then this one. */
    private static WellTold taping(int use, String text) {
        WellTold x = new WellTold();
        Checks.text(x, use, use == 0 ? "7" : "0");
        Checks.feed(x, text);
        return x;
    }

    private static void reads(String what, String text) {
        Edges.answers(what + ": " + text, () -> taping(0, text), x -> x.text(0), 1, x -> x.count(9), 0);
    }

    private static void faultAt(String what, String text, int fault) {
        faultOf(what, 0, text, fault);
    }

    private static void faultOf(String what, int use, String text, int fault) {
        WellTold x = taping(use, text);
        due(what + ": " + text, x.text(use), -10 - fault);
        due(what + ": THE TAPE is empty behind " + text, x.count(9), 0);
        due(what + ": the TEXT ahead stays, " + text, x.law(use, 1, 1, 1), use == 0 ? 7 : 0);
        for (int k = 1; k <= 5; k++) {
            due(what + ": no ERROR, told(" + k + "), " + text, x.told(k), 0);
        }
    }

    private static void textOfParts() {
        reads("Terms 2: T of two A", "s|m");
        reads("Terms 2: T of many A", "s|m|r|s|m|r");
        reads("Terms 2: A of two B", "s&m");
        reads("Terms 2: A of many B", "s&m&r&s&m&r");
        reads("Terms 2: B by <", "s<m");
        reads("Terms 2: B by =", "s=m");
        reads("Terms 2: B by >", "s>m");
        faultAt("Terms 2: B of three S by <", "s<m<r", 3);
        faultAt("Terms 2: B of three S by =", "s=m=r", 3);
        faultAt("Terms 2: B of three S by > and <", "s>m<r", 3);
        reads("Terms 2: three S in brackets", "(s<m)<r");
        reads("Terms 2: each of A may be compared", "s<m&m<r|r<s");
        reads("Terms 2: S of many P", "s+m-r+s-m");
        reads("Terms 2: P of many Q", "s*m/r%s*m");
        reads("Terms 2: ! ahead of a NUMBER", "!7");
        reads("Terms 2: ! ahead of a bracket", "!(s)");
        faultAt("Terms 2: no sign at the head", "-s", 0);
        faultAt("Terms 2: no two signs", "s+-m", 2);
        faultAt("Terms 2: no sign at the end", "s|", 2);
        faultAt("Terms 2: ! comes behind nothing", "s!", 1);
        faultAt("Terms 2: no bracket behind a NAME", "s(m)", 1);
        faultAt("Terms 2: no NAME behind a bracket", "(m)s", 3);
        faultAt("Terms 2: an empty bracket", "()", 1);
    }

    private static void textOfNumbersAndNames() {
        reads("Terms 2: a NUMBER of 1 digit", "0");
        reads("Terms 2: a NUMBER of 4 digits", "9999");
        faultAt("Terms 2: a NUMBER of 5 digits", "99999", 4);
        faultAt("Terms 2: 5 digits, noughts ahead", "00001", 4);
        law("Terms 2: noughts ahead don't matter", "0012", 0, 0, 0, 12);
        law("Terms 2: 4 digits, 9999", "9999-9990", 0, 0, 0, 9);
        faultAt("Terms 2: a NAME behind a NUMBER", "1s", 1);
        faultAt("Terms 2: a NUMBER behind a NAME", "s1", 1);
        faultAt("Terms 2: two NAMES", "sm", 1);
        faultOf("Terms 2: p is no NAME of WEAKENS", 0, "p", 0);
        faultOf("Terms 2: h is no NAME of WEAKENS", 0, "s+h", 2);
        faultOf("Terms 2: m is no NAME of TASTES", 1, "m", 0);
        faultOf("Terms 2: r is no NAME of TASTES", 1, "s+r", 2);
        faultAt("Terms 2: NAMES are small letters", "S", 0);
        faultAt("Terms 2: no blank at the head", " s", 0);
        faultAt("Terms 2: no blank inside", "s +m", 1);
        faultAt("Terms 2: no blank at the end", "s ", 1);
        faultAt("Terms 2: a byte 0", "s\0", 1);
        faultAt("Terms 2: a byte 255", "s\u00ff", 1);
        faultAt("Terms 2: a byte above 127 is no letter", "\u00f3", 0);
        faultAt("Terms 2: the byte ahead of the digits", "/", 0);
        faultAt("Terms 2: the byte behind the digits", ":", 0);
    }

    private static void textOpen() {
        reads("Terms 2: 5 of ! are open", "!!!!!s");
        faultAt("Terms 2: a sixth ! is too many", "!!!!!!s", 5);
        reads("Terms 2: 5 of ( are open", "(((((s)))))");
        faultAt("Terms 2: a sixth ( is too many", "((((((s))))))", 5);
        reads("Terms 2: 5 of both are open", "!(!(!s))");
        faultAt("Terms 2: a sixth of both, !", "(!(!(!s)))", 5);
        faultAt("Terms 2: a sixth of both, (", "!(!(!(s)))", 5);
        reads("Terms 2: ! is open no more behind its Q", "!!!!!s+!!!!!m");
        reads("Terms 2: ( is open no more behind )", "(((((s)))))+(((((m)))))");
        reads("Terms 2: ! is open in a bracket no more", "(!!!!s+!!!!m)");
        faultAt("Terms 2: a fifth ! in a bracket", "(!!!!s+!!!!!m)", 11);
    }

    private static void textFaults() {
        faultAt("Terms 2: FAULT is the first such byte", "s++)", 2);
        faultAt("Terms 2: FAULT 0", ")", 0);
        faultAt("Terms 2: ends too early, 1 byte", "(", 1);
        faultAt("Terms 2: ends too early behind a sign", "s*", 2);
        faultAt("Terms 2: ends too early in a bracket", "(s", 2);
        faultAt("Terms 2: ends too early behind !", "s+!", 3);
        faultAt("Terms 2: a ) too many", "(s))", 3);
        faultAt("Terms 2: a ) alone", "s)", 1);
        faultAt("Terms 2: FAULT 49", "s+m+r+s+m+r+s+m+r+s+m+r+s+m+r+s+m+r+s+m+r+s+m+r+1s", 49);
        faultAt("Terms 2: ends too early, 50 bytes", "s+m+r+s+m+r+s+m+r+s+m+r+s+m+r+s+m+r+s+m+r+s+m+r+1+", 50);
    }

    private static void law(String what, String text, int a, int b, int c, int due) {
        Edges.onlyTells(what + ": " + text, () -> {
            WellTold x = new WellTold();
            Checks.due(what + ": it is a TEXT, " + text, Checks.text(x, 0, text), 1);
            return x;
        }, x -> x.law(0, a, b, c), due);
    }

    private static void textWorkedOut() {
        law("Terms 2: / by 0 is 0", "s/m+5", 9, 0, 0, 5);
        law("Terms 2: % by 0 is 0", "s%m+5", 9, 0, 0, 5);
        law("Terms 2: 0 by 0 is 0", "s/s+s%s+5", 0, 0, 0, 5);
        law("Terms 2: + wraps", "s+1=m", MOST, LEAST, 0, 1);
        law("Terms 2: - wraps", "s-1=m", LEAST, MOST, 0, 1);
        law("Terms 2: * wraps", "s*s=0", 65536, 0, 0, 1);
        law("Terms 2: the least by -1 wraps", "s/m=s", LEAST, -1, 0, 1);
        law("Terms 2: the least by -1 leaves 0", "s%m+5", LEAST, -1, 0, 5);
        law("Terms 2: all is worked out behind |", "1|s/0", 9, 0, 0, 1);
        law("Terms 2: all is worked out behind &", "0&s/0", 9, 0, 0, 0);
        law("Terms 2: from the left, -", "9-5-3", 0, 0, 0, 1);
        law("Terms 2: from the left, /", "90/9/5", 0, 0, 0, 2);
        law("Terms 2: from the left, / and *", "9/2*2", 0, 0, 0, 8);
        law("Terms 2: from the left, % and *", "9%5*3", 0, 0, 0, 12);
        law("Terms 2: * ahead of +", "2+3*4", 0, 0, 0, 14);
        law("Terms 2: + ahead of <", "1<0+2", 0, 0, 0, 1);
        law("Terms 2: < ahead of &", "2&1<2", 0, 0, 0, 1);
        law("Terms 2: & ahead of |", "1|0&0", 0, 0, 0, 1);
        law("Terms 2: ! ahead of *", "!0*5", 0, 0, 0, 5);
    }

    private static void textTruth() {
        law("Terms 2: | of 0 and 0", "5+(s|m)", 0, 0, 0, 5);
        law("Terms 2: | of -1 is 1", "5+(s|m)", -1, 0, 0, 6);
        law("Terms 2: | of 0 and 2 is 1", "5+(s|m)", 0, 2, 0, 6);
        law("Terms 2: | of 2 and 2 is 1", "5+(s|m)", 2, 2, 0, 6);
        law("Terms 2: & of 1 and 2 is 1", "5+(s&m)", 1, 2, 0, 6);
        law("Terms 2: & of 2 and 0", "5+(s&m)", 2, 0, 0, 5);
        law("Terms 2: & of 0 and 2", "5+(s&m)", 0, 2, 0, 5);
        law("Terms 2: < of like ones", "5+(s<m)", 5, 5, 0, 5);
        law("Terms 2: < of 1 less", "5+(s<m)", 4, 5, 0, 6);
        law("Terms 2: < of 1 more", "5+(s<m)", 6, 5, 0, 5);
        law("Terms 2: > of 1 less", "5+(s>m)", 4, 5, 0, 5);
        law("Terms 2: < of least and most", "5+(s<m)", LEAST, MOST, 0, 6);
        law("Terms 2: > of like ones", "5+(s>m)", 5, 5, 0, 5);
        law("Terms 2: > of 1 more", "5+(s>m)", 6, 5, 0, 6);
        law("Terms 2: > of most and least", "5+(s>m)", MOST, LEAST, 0, 6);
        law("Terms 2: = of like ones", "5+(s=m)", 5, 5, 0, 6);
        law("Terms 2: = of unlike ones", "5+(s=m)", 5, 6, 0, 5);
        law("Terms 2: ! of 0 is 1", "5+!s", 0, 0, 0, 6);
        law("Terms 2: ! of -1 is 0", "5+!s", -1, 0, 0, 5);
        law("Terms 2: ! of 2 is 0", "5+!s", 2, 0, 0, 5);
        law("Terms 2: ! ! of 2 is 1", "5+!!s", 2, 0, 0, 6);
        law("Terms 2: the last NAME, alone", "r", 1, 2, 3, 3);
    }

    private static void uses() {
        law("Terms 2: WEAKENS is held: -1", "s", -1, 0, 0, 0);
        law("Terms 2: WEAKENS is held: 0", "s", 0, 0, 0, 0);
        law("Terms 2: WEAKENS is held: 99", "s", 99, 0, 0, 99);
        law("Terms 2: WEAKENS is held: 100", "s", 100, 0, 0, 99);
        law("Terms 2: WEAKENS is held: most", "s", MOST, 0, 0, 99);
        law("Terms 2: WEAKENS is held: least", "s", LEAST, 0, 0, 0);
        tastes("Terms 2: TASTES is held: -1", -1, 0);
        tastes("Terms 2: TASTES is held: 0", 0, 0);
        tastes("Terms 2: TASTES is held: 1", 1, 1);
        tastes("Terms 2: TASTES is held: 2", 2, 1);
        tastes("Terms 2: TASTES is held: most", MOST, 1);
        Edges.onlyTells("Terms 2: WEAKENS without a TEXT, r 0", Edges::fresh, x -> x.law(0, 50, 5, 0), 1);
        Edges.onlyTells("Terms 2: WEAKENS without a TEXT, r 9", Edges::fresh, x -> x.law(0, 50, 5, 9), 5);
        Edges.onlyTells("Terms 2: TASTES without a TEXT", Edges::fresh, x -> x.law(1, 0, 99, 0), 1);
        Edges.onlyTells("Terms 2: a TEXT of the other USE alone", () -> taping(0, ""), x -> x.law(1, 0, 99, 0), 1);
        Edges.refused("Terms 2: there is no USE 2", Edges::some, x -> x.text(2), BEYOND);
        Edges.refused("Terms 2: there is no USE -1", Edges::some, x -> x.text(-1), BEYOND);
    }

    private static void tastes(String what, int s, int due) {
        Edges.onlyTells(what, () -> Edges.tasting("s"), x -> x.law(1, s, 0, 0), due);
    }
}
