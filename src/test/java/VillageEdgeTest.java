/**
 * Promises 1 to 19 of ../shared/DOC.md: for each sentence that names a boundary case a test that makes just that case.
 */
public final class VillageEdgeTest {
    private static final int BEYOND = Edges.BEYOND;
    private static final int NONE = Edges.NONE;
    private static final int STATE = Edges.STATE;
    private static final int FULL = Edges.FULL;
    private static final int KIND = Edges.KIND;
    private static final int LEAST = Edges.LEAST;
    private static final int MOST = Edges.MOST;

    private VillageEdgeTest() {
    }

    public static void main(String[] args) {
        p1NewObject();
        p2Wells();
        p3Way();
        p4OfWay();
        p5Stop();
        p6Rain();
        p7Call();
        p8OfSaying();
        p9Change();
        p10Become();
        p11As();
        p12Folk();
        p13OfFolk();
        p14Drink();
        p14DrinkWhatOneKnows();
        p15Feed();
        p16Text();
        p17Law();
        p18Hours();
        p18HoursUpToTheLast();
        p19Loose();
        p19LooseUpToTheLast();
        Checks.end("VillageEdgeTest");
    }

    private static void due(String what, long got, long want) {
        Checks.due(what, got, want);
    }

    private static void p1NewObject() {
        int[] first = {4, 0, 0, 0, 0, 0, 0, 0, 0, 0, 0, 0, 1};
        for (int what = 0; what < first.length; what++) {
            int which = what;
            Edges.onlyTells("1: all as at first, count(" + what + ")", Edges::fresh, x -> x.count(which), first[what]);
        }
        for (int k = 1; k <= 5; k++) {
            int which = k;
            Edges.onlyTells("1: no ERROR is told, " + k, Edges::fresh, x -> x.told(which), 0);
        }
        for (int sheet = 0; sheet < 4; sheet++) {
            int which = sheet;
            Edges.refused("1: SHEET " + sheet + " is missing", Edges::fresh, x -> x.judge(which), NONE);
        }
        Edges.refused("1: there is no IMAGE", Edges::fresh, x -> x.restore(), NONE);
        Edges.answers("1: no IMAGE was made", Edges::fresh, x -> x.image(), 1);
        WellTold old = Edges.full();
        due("1: one object takes nothing from another", new WellTold().count(2), 0);
        due("1: and gives nothing to it", old.count(2), 8);
    }

    // ---- wells, ways, sayings, folk

    private static void p2Wells() {
        Edges.answers("2: how many there were: 2", Edges::fresh, x -> x.wells(2) * 10 + x.wells(8), 42);
        Edges.answers("2: how many there were: 8", Edges::fresh, x -> x.wells(8) * 10 + x.wells(2), 48);
        Edges.answers("2: there are so many: 2", Edges::fresh, x -> x.wells(2) * 10 + x.count(0), 42);
        Edges.answers("2: there are so many: 8", Edges::fresh, x -> x.wells(8) * 10 + x.count(0), 48);
        Edges.answers("2: as many as there were", Edges::fresh, x -> x.wells(4), 4);
        Edges.refused("2: BEYOND, 1", Edges::fresh, x -> x.wells(1), BEYOND);
        Edges.refused("2: BEYOND, 9", Edges::fresh, x -> x.wells(9), BEYOND);
        Edges.refused("2: BEYOND, 0", Edges::fresh, x -> x.wells(0), BEYOND);
        Edges.refused("2: BEYOND, least", Edges::fresh, x -> x.wells(LEAST), BEYOND);
        Edges.refused("2: BEYOND, most", Edges::fresh, x -> x.wells(MOST), BEYOND);
        Edges.refused("2: STATE, there is a WAY alone", VillageEdgeTest::aWay, x -> x.wells(8), STATE);
        Edges.refused("2: STATE, there is a SAYING alone", VillageEdgeTest::aSaying, x -> x.wells(8), STATE);
        Edges.refused("2: STATE, there is one of FOLK alone", () -> Edges.folk(1), x -> x.wells(8), STATE);
        Edges.refused("2: STATE, though it is as many", VillageEdgeTest::aWay, x -> x.wells(4), STATE);
        Edges.refused("2: STATE, though the WAY is STOPPED", () -> stopped(aWay()), x -> x.wells(8), STATE);
        Edges.refused("2: BEYOND is asked ahead of STATE", VillageEdgeTest::aWay, x -> x.wells(9), BEYOND);
    }

    private static WellTold aWay() {
        WellTold x = new WellTold();
        x.way(0, 1, 1);
        return x;
    }

    private static WellTold stopped(WellTold x) {
        x.stop(0, 1);
        return x;
    }

    private static WellTold aSaying() {
        WellTold x = new WellTold();
        x.call(0, 0, 0);
        return x;
    }

    private static void p3Way() {
        Edges.answers("3: the number of one more", Edges::some, x -> x.way(4, 0, 1), 3);
        Edges.answers("3: to the last WELL", Edges::some, x -> x.way(0, 4, 9), 3);
        Edges.refused("3: BEYOND, from -1", Edges::some, x -> x.way(-1, 0, 1), BEYOND);
        Edges.refused("3: BEYOND, from WELL 5 of 5", Edges::some, x -> x.way(5, 0, 1), BEYOND);
        Edges.refused("3: BEYOND, to -1", Edges::some, x -> x.way(0, -1, 1), BEYOND);
        Edges.refused("3: BEYOND, to WELL 5 of 5", Edges::some, x -> x.way(0, 5, 1), BEYOND);
        Edges.refused("3: BEYOND, from the first WELL to itself", Edges::some, x -> x.way(0, 0, 1), BEYOND);
        Edges.refused("3: BEYOND, from the last WELL to itself", Edges::some, x -> x.way(4, 4, 1), BEYOND);
        Edges.refused("3: BEYOND, 0 HOURS", Edges::some, x -> x.way(0, 1, 0), BEYOND);
        Edges.refused("3: BEYOND, 10 HOURS", Edges::some, x -> x.way(0, 1, 10), BEYOND);
        Edges.refused("3: BEYOND, HOURS least", Edges::some, x -> x.way(0, 1, LEAST), BEYOND);
        Edges.refused("3: FULL", Edges::full, x -> x.way(0, 1, 1), FULL);
        Edges.refused("3: FULL, all of them STOPPED", () -> {
            WellTold x = Edges.full();
            for (int way = 0; way < 8; way++) {
                x.stop(way, 1);
            }
            return x;
        }, x -> x.way(0, 1, 1), FULL);
        Edges.refused("3: BEYOND is asked ahead of FULL", Edges::full, x -> x.way(0, 0, 1), BEYOND);
    }

    private static void p4OfWay() {
        Edges.onlyTells("4: what 0", Edges::some, x -> x.ofWay(2, 0), 1);
        Edges.onlyTells("4: what 1", Edges::some, x -> x.ofWay(2, 1), 3);
        Edges.onlyTells("4: what 2", Edges::some, x -> x.ofWay(2, 2), 9);
        Edges.onlyTells("4: what 3, not STOPPED", Edges::some, x -> x.ofWay(2, 3), 0);
        Edges.onlyTells("4: what 3, STOPPED", Edges::some, x -> x.ofWay(1, 3), 1);
        Edges.onlyTells("4: the last of 8", Edges::full, x -> x.ofWay(7, 2), 8);
        Edges.refused("4: BEYOND, what 4", Edges::some, x -> x.ofWay(0, 4), BEYOND);
        Edges.refused("4: BEYOND, what -1", Edges::some, x -> x.ofWay(0, -1), BEYOND);
        Edges.refused("4: BEYOND, WAY 3 of 3", Edges::some, x -> x.ofWay(3, 0), BEYOND);
        Edges.refused("4: BEYOND, WAY 8 of 8", Edges::full, x -> x.ofWay(8, 0), BEYOND);
        Edges.refused("4: BEYOND, WAY -1", Edges::some, x -> x.ofWay(-1, 0), BEYOND);
        Edges.refused("4: BEYOND, none at all", Edges::fresh, x -> x.ofWay(0, 0), BEYOND);
    }

    private static void p5Stop() {
        Edges.onlyTells("5: STOPPED it stays so", Edges::some, x -> x.stop(1, 1), 1);
        Edges.onlyTells("5: not STOPPED it stays so", Edges::some, x -> x.stop(0, 0), 0);
        Edges.answers("5: it becomes STOPPED", Edges::some, x -> x.stop(0, 1), 0, x -> x.ofWay(0, 3), 1);
        Edges.answers("5: it becomes not STOPPED", Edges::some, x -> x.stop(1, 0), 1, x -> x.ofWay(1, 3), 0);
        Edges.answers("5: that one alone", Edges::some, x -> x.stop(2, 1), 0, x -> x.count(6), 6);
        Edges.refused("5: BEYOND, v 2", Edges::some, x -> x.stop(0, 2), BEYOND);
        Edges.refused("5: BEYOND, v -1", Edges::some, x -> x.stop(0, -1), BEYOND);
        Edges.refused("5: BEYOND, WAY 3 of 3", Edges::some, x -> x.stop(3, 1), BEYOND);
        Edges.refused("5: BEYOND, WAY -1", Edges::some, x -> x.stop(-1, 1), BEYOND);
        Edges.refused("5: BEYOND, WAY 32 is not WAY 0", Edges::some, x -> x.stop(32, 1), BEYOND);
        Edges.refused("5: BEYOND, none at all", Edges::fresh, x -> x.stop(0, 0), BEYOND);
    }

    private static void p6Rain() {
        Edges.onlyTells("6: as it was", Edges::some, x -> x.rain(6), 6);
        Edges.answers("6: what it was, 0", Edges::fresh, x -> x.rain(9), 0);
        Edges.answers("6: what it was, 9", Edges::fresh, x -> x.rain(9), 0, x -> x.rain(0), 9);
        Edges.answers("6: it becomes 0", Edges::some, x -> x.rain(0), 6, x -> x.count(5), 0);
        Edges.refused("6: BEYOND, 10", Edges::some, x -> x.rain(10), BEYOND);
        Edges.refused("6: BEYOND, -1", Edges::some, x -> x.rain(-1), BEYOND);
        Edges.refused("6: BEYOND, most", Edges::some, x -> x.rain(MOST), BEYOND);
    }

    private static void p7Call() {
        Edges.answers("7: the number of one more", Edges::some, x -> x.call(0, 0, 0), 3);
        Edges.answers("7: km 69, the last WELL, STRENGTH 99", Edges::some, x -> x.call(69, 4, 99), 3);
        Edges.refused("7: BEYOND, km 70", Edges::some, x -> x.call(70, 0, 0), BEYOND);
        Edges.refused("7: BEYOND, km -1", Edges::some, x -> x.call(-1, 0, 0), BEYOND);
        Edges.refused("7: BEYOND, km least", Edges::some, x -> x.call(LEAST, 0, 0), BEYOND);
        Edges.refused("7: BEYOND, WELL 5 of 5", Edges::some, x -> x.call(0, 5, 0), BEYOND);
        Edges.refused("7: BEYOND, WELL -1", Edges::some, x -> x.call(0, -1, 0), BEYOND);
        Edges.refused("7: BEYOND, STRENGTH 100", Edges::some, x -> x.call(0, 0, 100), BEYOND);
        Edges.refused("7: BEYOND, STRENGTH -1", Edges::some, x -> x.call(0, 0, -1), BEYOND);
        Edges.refused("7: FULL", Edges::full, x -> x.call(0, 0, 0), FULL);
        Edges.refused("7: BEYOND is asked ahead of FULL", Edges::full, x -> x.call(0, 0, 100), BEYOND);
    }

    private static void p8OfSaying() {
        // SAYING 2 of some(): LOVE, m 2, WELL 4, STRENGTH 70, there, doesn't weaken, no WAY from WELL 4, unknown.
        int[] due = {4, 2, 4, 70, 0, 0, -1, 0};
        for (int what = 0; what < due.length; what++) {
            int which = what;
            Edges.onlyTells("8: what " + what, Edges::some, x -> x.ofSaying(2, which), due[what]);
        }
        Edges.onlyTells("8: the last of 8, STRENGTH", Edges::full, x -> x.ofSaying(7, 3), 27);
        Edges.refused("8: BEYOND, what 8", Edges::some, x -> x.ofSaying(0, 8), BEYOND);
        Edges.refused("8: BEYOND, what -1", Edges::some, x -> x.ofSaying(0, -1), BEYOND);
        Edges.refused("8: BEYOND, SAYING 3 of 3", Edges::some, x -> x.ofSaying(3, 0), BEYOND);
        Edges.refused("8: BEYOND, SAYING 8 of 8", Edges::full, x -> x.ofSaying(8, 0), BEYOND);
        Edges.refused("8: BEYOND, SAYING -1", Edges::some, x -> x.ofSaying(-1, 0), BEYOND);
        Edges.refused("8: BEYOND, none at all", Edges::fresh, x -> x.ofSaying(0, 0), BEYOND);
        Edges.answers("8: -1 for no WAY is no ERROR", Edges::some, x -> x.ofSaying(2, 6), -1, x -> x.told(1), 0);
        Edges.answers("8: WAY 0 is told from none", VillageEdgeTest::aWay,
            x -> x.call(0, 0, 0), 0, x -> x.ofSaying(0, 6), 0);
        Edges.answers("8: how much it WEAKENS, though STRENGTH is less", Edges::fresh, x -> {
            x.call(50, 0, 2);
            return x.ofSaying(0, 5);
        }, 3);
        Edges.answers("8: who KNOWS it: six", () -> Edges.folk(6), x -> {
            x.call(0, 0, 50);
            x.hours(1);
            return x.ofSaying(0, 7);
        }, 63);
        Edges.answers("8: the WAY from AT, though it is on its way", Edges::fresh, x -> {
            x.way(0, 1, 5);
            x.way(1, 2, 1);
            x.call(0, 0, 50);
            x.hours(1);
            return x.ofSaying(0, 4);
        }, 5, x -> x.ofSaying(0, 6), 1);
    }

    /** A SAYING on its way to WELL 1, with 8 HOURS more to go. */
    private static WellTold onItsWay() {
        WellTold x = new WellTold();
        x.way(0, 1, 9);
        x.call(0, 0, 50);
        x.hours(2);
        return x;
    }

    private static void p9Change() {
        Edges.answers("9: AT, what it was", VillageEdgeTest::onItsWay, x -> x.change(0, 0, 3), 1);
        Edges.answers("9: it is there then", VillageEdgeTest::onItsWay,
            x -> x.change(0, 0, 3), 1, x -> x.ofSaying(0, 4), 0);
        Edges.answers("9: there, AT the same WELL", VillageEdgeTest::onItsWay,
            x -> x.change(0, 0, 1), 1, x -> x.ofSaying(0, 4), 0);
        Edges.answers("9: STRENGTH leaves it on its way", VillageEdgeTest::onItsWay,
            x -> x.change(0, 1, 9), 48, x -> x.ofSaying(0, 4), 8);
        Edges.answers("9: STRENGTH 0", Edges::some, x -> x.change(0, 1, 0), 60, x -> x.ofSaying(0, 3), 0);
        Edges.answers("9: STRENGTH 99", Edges::some, x -> x.change(0, 1, 99), 60, x -> x.ofSaying(0, 3), 99);
        Edges.answers("9: the last WELL", Edges::some, x -> x.change(0, 0, 4), 1, x -> x.ofSaying(0, 2), 4);
        Edges.onlyTells("9: STRENGTH as it was", Edges::some, x -> x.change(0, 1, 60), 60);
        Edges.refused("9: BEYOND, STRENGTH 100", Edges::some, x -> x.change(0, 1, 100), BEYOND);
        Edges.refused("9: BEYOND, STRENGTH -1", Edges::some, x -> x.change(0, 1, -1), BEYOND);
        Edges.refused("9: BEYOND, AT WELL 5 of 5", Edges::some, x -> x.change(0, 0, 5), BEYOND);
        Edges.refused("9: BEYOND, AT WELL -1", Edges::some, x -> x.change(0, 0, -1), BEYOND);
        Edges.refused("9: BEYOND, it stays on its way", VillageEdgeTest::onItsWay, x -> x.change(0, 0, 4), BEYOND);
        Edges.refused("9: BEYOND, what 2", Edges::some, x -> x.change(0, 2, 0), BEYOND);
        Edges.refused("9: BEYOND, what -1", Edges::some, x -> x.change(0, -1, 0), BEYOND);
        Edges.refused("9: BEYOND, SAYING 3 of 3", Edges::some, x -> x.change(3, 0, 0), BEYOND);
        Edges.refused("9: BEYOND, SAYING -1", Edges::some, x -> x.change(-1, 1, 0), BEYOND);
        Edges.refused("9: BEYOND, none at all", Edges::fresh, x -> x.change(0, 1, 0), BEYOND);
    }

    private static void p10Become() {
        Edges.onlyTells("10: as it was", Edges::some, x -> x.become(1, 25), 2);
        Edges.answers("10: km 69, the KIND that it was", Edges::some, x -> x.become(1, 69), 2);
        Edges.answers("10: km 69, KIND", Edges::some, x -> x.become(1, 69), 2, x -> x.ofSaying(1, 0), 6);
        Edges.answers("10: km 69, m", Edges::some, x -> x.become(1, 69), 2, x -> x.ofSaying(1, 1), 9);
        Edges.answers("10: km 0, KIND", Edges::some, x -> x.become(1, 0), 2, x -> x.ofSaying(1, 0), 0);
        Edges.answers("10: km 0, m", Edges::some, x -> x.become(1, 0), 2, x -> x.ofSaying(1, 1), 0);
        Edges.answers("10: on its way it stays so", VillageEdgeTest::onItsWay,
            x -> x.become(0, 30), 0, x -> x.ofSaying(0, 4), 8);
        Edges.refused("10: BEYOND, km 70", Edges::some, x -> x.become(0, 70), BEYOND);
        Edges.refused("10: BEYOND, km -1", Edges::some, x -> x.become(0, -1), BEYOND);
        Edges.refused("10: BEYOND, SAYING 3 of 3", Edges::some, x -> x.become(3, 0), BEYOND);
        Edges.refused("10: BEYOND, SAYING -1", Edges::some, x -> x.become(-1, 0), BEYOND);
        Edges.refused("10: BEYOND, none at all", Edges::fresh, x -> x.become(0, 0), BEYOND);
    }

    private static void p11As() {
        Edges.onlyTells("11: as its own KIND", Edges::some, x -> x.as(2, 4), 2);
        Edges.onlyTells("11: as the KIND above", Edges::some, x -> x.as(2, 1), 2);
        Edges.onlyTells("11: as the KIND above that", Edges::some, x -> x.as(2, 0), 2);
        Edges.refused("11: KIND, one beside it", Edges::some, x -> x.as(2, 2), KIND);
        Edges.refused("11: KIND, one under it", Edges::some, x -> x.as(0, 1), KIND);
        Edges.refused("11: KIND, one under one beside it", Edges::some, x -> x.as(2, 5), KIND);
        Edges.refused("11: BEYOND, KIND 7", Edges::some, x -> x.as(0, 7), BEYOND);
        Edges.refused("11: BEYOND, KIND -1", Edges::some, x -> x.as(0, -1), BEYOND);
        Edges.refused("11: BEYOND, SAYING 3 of 3", Edges::some, x -> x.as(3, 0), BEYOND);
        Edges.refused("11: BEYOND, SAYING -1", Edges::some, x -> x.as(-1, 0), BEYOND);
        Edges.refused("11: BEYOND, none at all", Edges::fresh, x -> x.as(0, 6), BEYOND);
    }

    private static void p12Folk() {
        Edges.answers("12: the number of one more", Edges::some, x -> x.folk(4, 99), 2);
        Edges.answers("12: PALATE 0", Edges::some, x -> x.folk(0, 0), 2, x -> x.ofFolk(2, 1), 0);
        Edges.refused("12: BEYOND, WELL 5 of 5", Edges::some, x -> x.folk(5, 0), BEYOND);
        Edges.refused("12: BEYOND, WELL -1", Edges::some, x -> x.folk(-1, 0), BEYOND);
        Edges.refused("12: BEYOND, PALATE 100", Edges::some, x -> x.folk(0, 100), BEYOND);
        Edges.refused("12: BEYOND, PALATE -1", Edges::some, x -> x.folk(0, -1), BEYOND);
        Edges.refused("12: FULL", Edges::full, x -> x.folk(0, 0), FULL);
        Edges.refused("12: BEYOND is asked ahead of FULL", Edges::full, x -> x.folk(8, 0), BEYOND);
    }

    private static void p13OfFolk() {
        Edges.onlyTells("13: what 0", Edges::some, x -> x.ofFolk(1, 0), 2);
        Edges.onlyTells("13: what 1", Edges::some, x -> x.ofFolk(1, 1), 20);
        Edges.onlyTells("13: what 2", Edges::some, x -> x.ofFolk(1, 2), 2);
        Edges.onlyTells("13: the last of 6", Edges::full, x -> x.ofFolk(5, 1), 15);
        Edges.refused("13: BEYOND, what 3", Edges::some, x -> x.ofFolk(0, 3), BEYOND);
        Edges.refused("13: BEYOND, what -1", Edges::some, x -> x.ofFolk(0, -1), BEYOND);
        Edges.refused("13: BEYOND, one 2 of 2", Edges::some, x -> x.ofFolk(2, 0), BEYOND);
        Edges.refused("13: BEYOND, one 6 of 6", Edges::full, x -> x.ofFolk(6, 0), BEYOND);
        Edges.refused("13: BEYOND, one -1", Edges::some, x -> x.ofFolk(-1, 0), BEYOND);
        Edges.refused("13: BEYOND, nobody at all", Edges::fresh, x -> x.ofFolk(0, 0), BEYOND);
    }

    private static void p14Drink() {
        Edges.answers("14: the last WELL", Edges::some, x -> x.drink(0, 0, 4), 1, x -> x.ofFolk(0, 0), 4);
        Edges.answers("14: the first WELL", Edges::some, x -> x.drink(0, 0, 0), 1, x -> x.ofFolk(0, 0), 0);
        Edges.answers("14: PALATE 0", Edges::some, x -> x.drink(0, 1, 0), 10, x -> x.ofFolk(0, 1), 0);
        Edges.answers("14: PALATE 99", Edges::some, x -> x.drink(0, 1, 99), 10, x -> x.ofFolk(0, 1), 99);
        Edges.onlyTells("14: PALATE as it was", Edges::some, x -> x.drink(0, 1, 10), 10);
        Edges.onlyTells("14: WELL as it was", Edges::some, x -> x.drink(0, 0, 1), 1);
        Edges.refused("14: BEYOND, WELL 5 of 5", Edges::some, x -> x.drink(0, 0, 5), BEYOND);
        Edges.refused("14: BEYOND, WELL -1", Edges::some, x -> x.drink(0, 0, -1), BEYOND);
        Edges.refused("14: BEYOND, PALATE 100", Edges::some, x -> x.drink(0, 1, 100), BEYOND);
        Edges.refused("14: BEYOND, PALATE -1", Edges::some, x -> x.drink(0, 1, -1), BEYOND);
        Edges.refused("14: BEYOND, what 3", Edges::some, x -> x.drink(0, 3, 0), BEYOND);
        Edges.refused("14: BEYOND, what -1", Edges::some, x -> x.drink(0, -1, 0), BEYOND);
        Edges.refused("14: BEYOND, one 2 of 2", Edges::some, x -> x.drink(2, 0, 0), BEYOND);
        Edges.refused("14: BEYOND, one -1", Edges::some, x -> x.drink(-1, 0, 0), BEYOND);
        Edges.refused("14: BEYOND, nobody at all", Edges::fresh, x -> x.drink(0, 1, 0), BEYOND);
    }

    private static void p14DrinkWhatOneKnows() {
        Edges.onlyTells("14: KNOWS as ahead", Edges::some, x -> x.drink(1, 2, 2), 2);
        Edges.answers("14: KNOWS all of 3", Edges::some, x -> x.drink(1, 2, 7), 2, x -> x.ofFolk(1, 2), 7);
        Edges.answers("14: KNOWS all of 8", Edges::full, x -> x.drink(5, 2, 255), 0, x -> x.ofFolk(5, 2), 255);
        Edges.answers("14: KNOWS nothing any more", Edges::some, x -> x.drink(1, 2, 0), 2, x -> x.ofFolk(1, 2), 0);
        Edges.answers("14: nothing of no SAYINGS", () -> Edges.folk(1), x -> x.drink(0, 2, 0), 0);
        Edges.answers("14: others KNOW what they knew", Edges::some, x -> x.drink(1, 2, 0), 2, x -> x.ofFolk(0, 2), 1);
        Edges.answers("14: a SAYING is known by it", Edges::some, x -> x.drink(1, 2, 5), 2, x -> x.ofSaying(2, 7), 2);
        Edges.refused("14: BEYOND, SAYING 3 of 3", Edges::some, x -> x.drink(1, 2, 8), BEYOND);
        Edges.refused("14: BEYOND, SAYING 8 of 8", Edges::full, x -> x.drink(0, 2, 256), BEYOND);
        Edges.refused("14: BEYOND, SAYING 0 of none", () -> Edges.folk(1), x -> x.drink(0, 2, 1), BEYOND);
        Edges.refused("14: BEYOND, KNOWS -1", Edges::some, x -> x.drink(1, 2, -1), BEYOND);
        Edges.refused("14: BEYOND, KNOWS least", Edges::some, x -> x.drink(1, 2, LEAST), BEYOND);
    }

    // ---- texts

    private static void p15Feed() {
        Edges.answers("15: 1 byte", Edges::fresh, x -> x.feed(-1L, 1), 1);
        Edges.answers("15: 8 bytes", Edges::fresh, x -> x.feed(-1L, 8), 8);
        Edges.answers("15: how many there are", Edges::some, x -> x.feed(0, 8), 10);
        Edges.answers("15: just to 50", () -> fed(42), x -> x.feed(0, 8), 50);
        Edges.refused("15: BEYOND, 0", Edges::some, x -> x.feed(0, 0), BEYOND);
        Edges.refused("15: BEYOND, 9", Edges::some, x -> x.feed(0, 9), BEYOND);
        Edges.refused("15: BEYOND, -1", Edges::some, x -> x.feed(0, -1), BEYOND);
        Edges.refused("15: BEYOND, least", Edges::some, x -> x.feed(0, LEAST), BEYOND);
        Edges.refused("15: BEYOND, most", Edges::some, x -> x.feed(0, MOST), BEYOND);
        Edges.refused("15: FULL, 1", Edges::full, x -> x.feed(0, 1), FULL);
        Edges.refused("15: FULL, none of 8 comes", () -> fed(43), x -> x.feed(0x3737373737373737L, 8), FULL);
        Edges.refused("15: BEYOND is asked ahead of FULL", Edges::full, x -> x.feed(0, 9), BEYOND);
        Edges.answers("15: the lowest comes first", Edges::fresh, x -> {
            x.feed(0x322d73, 3);
            return x.text(0);
        }, 1, x -> x.law(0, 9, 0, 0), 7);
        Edges.answers("15: those above don't come", Edges::fresh,
            x -> x.feed(0x7373737373737337L, 1), 1, x -> x.text(0), 1);
        // "1+2+3+4", and a byte 255 that no TEXT has.
        Edges.answers("15: the eighth is the highest", Edges::fresh, x -> x.feed(0xff342b332b322b31L, 8), 8,
            x -> x.text(0), -17);
        Edges.answers("15: eight in order", Edges::fresh, x -> {
            x.feed('9', 1);
            x.feed(0x322d312d312d312dL, 8);
            return x.text(0);
        }, 1, x -> x.law(0, 0, 0, 0), 4);
    }

    private static WellTold fed(int bytes) {
        WellTold x = new WellTold();
        for (int i = 0; i < bytes; i++) {
            x.feed('7', 1);
        }
        return x;
    }

    private static WellTold reading(String text) {
        WellTold x = new WellTold();
        Checks.text(x, 0, "7");
        Checks.text(x, 1, "0");
        Checks.feed(x, text);
        return x;
    }

    private static void p16Text() {
        Edges.answers("16: a TEXT", () -> reading("s"), x -> x.text(0), 1);
        Edges.answers("16: THE TAPE is empty then", () -> reading("s"), x -> x.text(0), 1, x -> x.count(9), 0);
        Edges.answers("16: in place of the one ahead", () -> reading("s"),
            x -> x.text(0), 1, x -> x.law(0, 9, 0, 0), 9);
        Edges.answers("16: that of the other USE stays", () -> reading("s"),
            x -> x.text(0), 1, x -> x.law(1, 9, 0, 0), 0);
        // Both as long as can be; 25 of 1 and 25 of 2.
        Edges.answers("16: a long one in place of a long one",
        () -> reading("1+1+1+1+1+1+1+1+1+1+1+1+1+1+1+1+1+1+1+1+1+1+1+1+1"),
            x -> {
                x.text(0);
                return Checks.text(x, 0, "2+2+2+2+2+2+2+2+2+2+2+2+2+2+2+2+2+2+2+2+2+2+2+2+2");
            }, 1, x -> x.law(0, 0, 0, 0), 50);
        Edges.answers("16: of USE 1", () -> reading("s"), x -> x.text(1), 1, x -> x.law(1, 9, 0, 0), 1);
        Edges.answers("16: that of USE 0 stays", () -> reading("s"), x -> x.text(1), 1, x -> x.law(0, 9, 0, 0), 7);
        Edges.refused("16: BEYOND, USE 2: THE TAPE stays", () -> reading("s"), x -> x.text(2), BEYOND);
        Edges.refused("16: BEYOND, USE -1: THE TAPE stays", () -> reading("s"), x -> x.text(-1), BEYOND);
        Edges.answers("16: BEYOND, THE TAPE can be read behind it", () -> reading("s"), x -> x.text(2), BEYOND,
            x -> x.text(0), 1);
        Edges.answers("16: FAULT 0: -10", () -> reading("|"), x -> x.text(0), -10);
        Edges.answers("16: THE TAPE is empty: -10", () -> reading(""), x -> x.text(0), -10);
        Edges.answers("16: FAULT 1: -11", () -> reading("s!"), x -> x.text(0), -11);
        Edges.answers("16: THE TAPE is empty behind a FAULT", () -> reading("s!"),
            x -> x.text(0), -11, x -> x.count(9), 0);
        Edges.answers("16: the one ahead stays", () -> reading("s!"), x -> x.text(0), -11, x -> x.law(0, 9, 0, 0), 7);
        Edges.answers("16: without one ahead there is none", Edges::fresh,
            x -> x.text(0), -10, x -> x.law(0, 9, 0, 9), 5);
        for (int k = 1; k <= 5; k++) {
            int which = k;
            Edges.answers("16: a FAULT is no ERROR, " + k, () -> reading("s!"),
                x -> x.text(0), -11, x -> x.told(which), 0);
        }
        Edges.answers("16: a TEXT behind a FAULT", () -> reading("s!"),
            x -> x.text(0), -11, x -> Checks.text(x, 0, "m"), 1);
    }

    private static void p17Law() {
        Edges.onlyTells("17: the first NAME is a", () -> law("s"), x -> x.law(0, 3, 4, 5), 3);
        Edges.onlyTells("17: the second NAME is b", () -> law("m"), x -> x.law(0, 3, 4, 5), 4);
        Edges.onlyTells("17: the third NAME is c", () -> law("r"), x -> x.law(0, 3, 4, 5), 5);
        Edges.onlyTells("17: the first NAME of TASTES is a", () -> Edges.tasting("s"), x -> x.law(1, 1, 0, 0), 1);
        Edges.onlyTells("17: the second NAME of TASTES is b", () -> Edges.tasting("p"), x -> x.law(1, 0, 1, 0), 1);
        Edges.onlyTells("17: the third NAME of TASTES is c", () -> Edges.tasting("h"), x -> x.law(1, 0, 0, 1), 1);
        Edges.onlyTells("17: held within 99", () -> law("s"), x -> x.law(0, MOST, 0, 0), 99);
        Edges.onlyTells("17: held within 0", () -> law("s"), x -> x.law(0, LEAST, 0, 0), 0);
        Edges.onlyTells("17: held within 1", () -> Edges.tasting("s"), x -> x.law(1, MOST, 0, 0), 1);
        Edges.onlyTells("17: held within 0, TASTES", () -> Edges.tasting("s"), x -> x.law(1, LEAST, 0, 0), 0);
        Edges.onlyTells("17: WEAKENS without a TEXT", Edges::fresh, x -> x.law(0, 0, 0, 8), 5);
        // As it is read here, "held within 0 to 99" goes for 1+r/2 too (NOTES.md).
        Edges.onlyTells("17: held within 99 without a TEXT, just so", Edges::fresh, x -> x.law(0, 0, 0, 197), 99);
        Edges.onlyTells("17: held within 99 without a TEXT, 100", Edges::fresh, x -> x.law(0, 0, 0, 198), 99);
        Edges.onlyTells("17: held within 0 without a TEXT, just so", Edges::fresh, x -> x.law(0, 0, 0, -3), 0);
        Edges.onlyTells("17: held within 0 without a TEXT, -1", Edges::fresh, x -> x.law(0, 0, 0, -4), 0);
        Edges.onlyTells("17: TASTES without a TEXT", Edges::fresh, x -> x.law(1, 0, 0, 0), 1);
        Edges.refused("17: BEYOND, USE 2", Edges::some, x -> x.law(2, 0, 0, 0), BEYOND);
        Edges.refused("17: BEYOND, USE -1", Edges::some, x -> x.law(-1, 0, 0, 0), BEYOND);
    }

    private static WellTold law(String text) {
        WellTold x = new WellTold();
        Checks.due("17: text of " + text, Checks.text(x, 0, text), 1);
        return x;
    }

    // ---- hours

    private static void p18Hours() {
        Edges.answers("18: 1 HOUR", Edges::fresh, x -> x.hours(1), 0, x -> x.count(4), 1);
        Edges.answers("18: 99 HOURS", Edges::fresh, x -> x.hours(99), 0, x -> x.count(4), 99);
        Edges.refused("18: BEYOND, 0", Edges::some, x -> x.hours(0), BEYOND);
        Edges.refused("18: BEYOND, 100", Edges::some, x -> x.hours(100), BEYOND);
        Edges.refused("18: BEYOND, -1", Edges::some, x -> x.hours(-1), BEYOND);
        Edges.refused("18: BEYOND, least", Edges::some, x -> x.hours(LEAST), BEYOND);
        Edges.refused("18: BEYOND, most", Edges::some, x -> x.hours(MOST), BEYOND);
        Edges.answers("18: nobody KNOWS something", () -> Edges.folk(6), x -> x.hours(1), 0);
        Edges.answers("18: six KNOW something", () -> Edges.folk(6), x -> x.call(0, 0, 99), 0, x -> x.hours(1), 6);
        Edges.answers("18: one who KNOWS two counts once", () -> Edges.folk(1), x -> {
            x.call(0, 0, 99);
            x.call(0, 0, 99);
            return x.hours(1);
        }, 1);
        Edges.answers("18: two who KNOW unlike ones", () -> Edges.folk(1), x -> {
            x.folk(1, 0);
            x.call(0, 0, 99);
            x.call(0, 1, 99);
            return x.hours(1);
        }, 2);
        Edges.answers("18: who knew it ahead, too", () -> Edges.folk(2), x -> {
            x.call(0, 3, 0);
            x.drink(1, 2, 1);
            return x.hours(1);
        }, 1);
        Edges.answers("18: no draw", Edges::some, x -> x.hours(5), 2, x -> x.count(12), 77);
        Edges.answers("18: RAIN stays", Edges::some, x -> x.hours(5), 2, x -> x.count(5), 6);
    }

    private static void p18HoursUpToTheLast() {
        Edges.answers("18: 1 up to 9999", () -> Edges.hour(9998), x -> x.hours(1), 0, x -> x.count(4), 9999);
        Edges.answers("18: 99 up to 9999", () -> Edges.hour(9900), x -> x.hours(99), 0, x -> x.count(4), 9999);
        Edges.refused("18: STATE, 1 above 9999", Edges::last, x -> x.hours(1), STATE);
        Edges.refused("18: STATE, none of 2 passes", () -> Edges.hour(9998), x -> x.hours(2), STATE);
        Edges.refused("18: STATE, 99 above 9999", () -> Edges.hour(9901), x -> x.hours(99), STATE);
        Edges.refused("18: BEYOND is asked ahead of STATE, 100", Edges::last, x -> x.hours(100), BEYOND);
        Edges.refused("18: BEYOND is asked ahead of STATE, 0", Edges::last, x -> x.hours(0), BEYOND);
    }

    private static void p19Loose() {
        Edges.answers("19: 1 HOUR", Edges::fresh, x -> x.loose(1), 0, x -> x.count(4), 1);
        Edges.answers("19: 40 HOURS", Edges::fresh, x -> x.loose(40), 0, x -> x.count(4), 40);
        Edges.refused("19: BEYOND, 0", Edges::some, x -> x.loose(0), BEYOND);
        Edges.refused("19: BEYOND, 41", Edges::some, x -> x.loose(41), BEYOND);
        Edges.refused("19: BEYOND, -1", Edges::some, x -> x.loose(-1), BEYOND);
        Edges.refused("19: BEYOND, most", Edges::some, x -> x.loose(MOST), BEYOND);
        Edges.answers("19: nobody KNOWS something", () -> Edges.folk(6), x -> x.loose(1), 0);
        Edges.answers("19: six KNOW something", () -> Edges.folk(6), x -> x.call(0, 0, 99), 0, x -> x.loose(1), 6);
        // z 1: the draw is 4310654, so RAIN is 4 in that HOUR: 99 less 1 + 4 / 2.
        Edges.answers("19: RAIN is drawn ahead of the HOUR", () -> Edges.strengths(99),
            x -> x.loose(1), 0, x -> x.ofSaying(0, 3), 96);
        Edges.answers("19: RAIN is as in the last HOUR", () -> Edges.strengths(99),
            x -> x.loose(1), 0, x -> x.count(5), 4);
        Edges.answers("19: z is as in the last HOUR", () -> Edges.strengths(99),
            x -> x.loose(1), 0, x -> x.count(12), 1103527590);
        // z goes round: 1103527590 * 1103515245 + 12345, as an int.
        Edges.answers("19: z goes round", Edges::fresh,
        x -> x.loose(2), 0, x -> x.count(12), 1103527590 * 1103515245 + 12345);
    }

    private static void p19LooseUpToTheLast() {
        Edges.answers("19: 1 up to 9999", () -> Edges.hour(9998), x -> x.loose(1), 0, x -> x.count(4), 9999);
        Edges.answers("19: 40 up to 9999", () -> Edges.hour(9959), x -> x.loose(40), 0, x -> x.count(4), 9999);
        Edges.refused("19: STATE, 1 above 9999", Edges::last, x -> x.loose(1), STATE);
        Edges.refused("19: STATE, none of 2 passes", () -> Edges.hour(9998), x -> x.loose(2), STATE);
        Edges.refused("19: STATE, 40 above 9999", () -> Edges.hour(9960), x -> x.loose(40), STATE);
        Edges.refused("19: BEYOND is asked ahead of STATE, 41", Edges::last, x -> x.loose(41), BEYOND);
        Edges.refused("19: BEYOND is asked ahead of STATE, 0", Edges::last, x -> x.loose(0), BEYOND);
    }
}
