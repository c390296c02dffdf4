/** For each promise of ../shared/DOC.md its ordinary answers, its edges and its ERRORS, worked out by hand. */
public final class PromiseTest {
    private static final int BEYOND = Checks.BEYOND;
    private static final int NONE = Checks.NONE;
    private static final int STATE = Checks.STATE;
    private static final int FULL = Checks.FULL;
    private static final int KIND = Checks.KIND;
    private static final int LEAST = Integer.MIN_VALUE;
    private static final int MOST = Integer.MAX_VALUE;

    private PromiseTest() {
    }

    public static void main(String[] args) {
        wellsWaysSayingsFolk();
        texts();
        hours();
        whatWouldBe();
        drawsVoicesSheetsImages();
        Checks.end("PromiseTest");
    }

    private static void wellsWaysSayingsFolk() {
        p1NewObject();
        p2Wells();
        p3Way();
        p4OfWay();
        p5Stop();
        p6Rain();
        p7Call();
        p8OfSayingWeakens();
        p8OfSayingGoesOn();
        p8OfSayingByWayNothing();
        p8OfSayingOthers();
        p9Change();
        p10Become();
        p11As();
        p12Folk();
        p13OfFolk();
        p14Drink();
    }

    private static void texts() {
        p15Feed();
        p16TextFaults();
        p16TextKeepsTheOneAhead();
        p17LawSigns();
        p17LawHeldWithin();
        p17LawBearsOnHours();
    }

    private static void hours() {
        p18HoursMoves();
        p18HoursTastes();
        p18HoursErrors();
        p19Loose();
    }

    private static void whatWouldBe() {
        p20Then();
        p21Learns();
        p22Calls();
        p23Stops();
        p24Who();
        p25Loud();
        p26Alike();
        p27Furthest();
        p28Odds();
        thoughtsChangeNothing();
        thoughtsGoBeyondTheLastHour();
    }

    private static void drawsVoicesSheetsImages() {
        p29Seed();
        p30VoicesOfKinds();
        p31Trace();
        p32Sheet();
        p33Put();
        p34Move();
        p35Palates();
        p36Judge();
        p37Image();
        p38Restore();
        p38RestoreOfLess();
        p39Tell();
        p40Check();
        p41Count();
        p42Told();
    }

    private static void due(String what, long got, long want) {
        Checks.due(what, got, want);
    }

    // ---- wells, ways, sayings, folk

    private static void p1NewObject() {
        WellTold x = new WellTold();
        int[] first = {4, 0, 0, 0, 0, 0, 0, 0, 0, 0, 0, 0, 1};
        for (int i = 0; i < first.length; i++) {
            due("1: count(" + i + ")", x.count(i), first[i]);
        }
        for (int k = 1; k <= 5; k++) {
            due("1: told(" + k + ")", x.told(k), 0);
        }
        due("1: restore()", x.restore(), NONE);
        for (int i = 0; i < 4; i++) {
            due("1: sheet " + i + " is missing", x.judge(i), NONE);
        }
        due("1: two objects share nothing", new WellTold().wells(3) + new WellTold().wells(5), 8);
    }

    private static void p2Wells() {
        WellTold x = new WellTold();
        due("2: wells(2)", x.wells(2), 4);
        due("2: wells(8)", x.wells(8), 2);
        due("2: wells(1)", x.wells(1), BEYOND);
        due("2: wells(9)", x.wells(9), BEYOND);
        due("2: wells(least)", x.wells(LEAST), BEYOND);
        due("2: count(0)", x.count(0), 8);
        due("2: well 7 stands", x.way(7, 0, 1), 0);
        due("2: with a way", x.wells(4), STATE);
        due("2: BEYOND is asked first", x.wells(0), BEYOND);
        WellTold y = new WellTold();
        y.call(0, 0, 0);
        due("2: with a saying", y.wells(4), STATE);
        WellTold z = new WellTold();
        z.folk(0, 0);
        due("2: with folk", z.wells(4), STATE);
        due("2: stays", z.count(0), 4);
    }

    private static void p3Way() {
        WellTold x = new WellTold();
        due("3: way(0, 4, 1)", x.way(0, 4, 1), BEYOND);
        due("3: way(4, 0, 1)", x.way(4, 0, 1), BEYOND);
        due("3: way(-1, 0, 1)", x.way(-1, 0, 1), BEYOND);
        due("3: way(0, -1, 1)", x.way(0, -1, 1), BEYOND);
        due("3: way(2, 2, 1)", x.way(2, 2, 1), BEYOND);
        due("3: way(0, 1, 0)", x.way(0, 1, 0), BEYOND);
        due("3: way(0, 1, 10)", x.way(0, 1, 10), BEYOND);
        for (int i = 0; i < 8; i++) {
            due("3: way " + i, x.way(3, 0, 1 + i), i);
        }
        due("3: FULL", x.way(3, 0, 9), FULL);
        due("3: BEYOND is asked first", x.way(3, 3, 9), BEYOND);
        due("3: count(1)", x.count(1), 8);
    }

    private static void p4OfWay() {
        WellTold x = new WellTold();
        due("4: none yet", x.ofWay(0, 0), BEYOND);
        x.way(3, 1, 9);
        x.way(1, 2, 4);
        due("4: from", x.ofWay(0, 0), 3);
        due("4: to", x.ofWay(0, 1), 1);
        due("4: hours", x.ofWay(0, 2), 9);
        due("4: stopped", x.ofWay(0, 3), 0);
        due("4: from of 1", x.ofWay(1, 0), 1);
        due("4: to of 1", x.ofWay(1, 1), 2);
        due("4: hours of 1", x.ofWay(1, 2), 4);
        x.stop(1, 1);
        due("4: stopped of 1", x.ofWay(1, 3), 1);
        due("4: stopped of 0", x.ofWay(0, 3), 0);
        due("4: what 4", x.ofWay(0, 4), BEYOND);
        due("4: what -1", x.ofWay(0, -1), BEYOND);
        due("4: way 2", x.ofWay(2, 0), BEYOND);
        due("4: way -1", x.ofWay(-1, 0), BEYOND);
    }

    private static void p5Stop() {
        WellTold x = new WellTold();
        due("5: none yet", x.stop(0, 1), BEYOND);
        x.way(0, 1, 1);
        x.way(0, 2, 1);
        due("5: stop(1, 1)", x.stop(1, 1), 0);
        due("5: stop(1, 1) again", x.stop(1, 1), 1);
        due("5: count(6)", x.count(6), 2);
        due("5: stop(0, 0)", x.stop(0, 0), 0);
        due("5: stop(1, 0)", x.stop(1, 0), 1);
        due("5: count(6) again", x.count(6), 0);
        due("5: v 2", x.stop(0, 2), BEYOND);
        due("5: v -1", x.stop(0, -1), BEYOND);
        due("5: way 2", x.stop(2, 0), BEYOND);
        due("5: way -1", x.stop(-1, 0), BEYOND);
    }

    private static void p6Rain() {
        WellTold x = new WellTold();
        due("6: rain(9)", x.rain(9), 0);
        due("6: rain(10)", x.rain(10), BEYOND);
        due("6: rain(-1)", x.rain(-1), BEYOND);
        due("6: count(5)", x.count(5), 9);
        due("6: rain(0)", x.rain(0), 9);
    }

    private static void p7Call() {
        WellTold x = new WellTold();
        due("7: km 70", x.call(70, 0, 0), BEYOND);
        due("7: km -1", x.call(-1, 0, 0), BEYOND);
        due("7: well 4", x.call(0, 4, 0), BEYOND);
        due("7: well -1", x.call(0, -1, 0), BEYOND);
        due("7: strength 100", x.call(0, 0, 100), BEYOND);
        due("7: strength -1", x.call(0, 0, -1), BEYOND);
        due("7: call(69, 3, 99)", x.call(69, 3, 99), 0);
        for (int i = 1; i < 8; i++) {
            due("7: saying " + i, x.call(10 * i - 10, 0, 10 * i), i);
        }
        due("7: FULL", x.call(0, 0, 0), FULL);
        due("7: BEYOND is asked first", x.call(0, 0, 100), BEYOND);
        due("7: count(2)", x.count(2), 8);
        due("7: count(7)", x.count(7), 99 + 280);
    }

    private static WellTold sevenKinds(int m) {
        WellTold x = new WellTold();
        for (int kind = 0; kind < 7; kind++) {
            x.call(10 * kind + m, 0, 50);
        }
        return x;
    }

    private static void weakens(String what, WellTold x, int... due) {
        for (int kind = 0; kind < 7; kind++) {
            due(what + ": kind " + kind + " weakens", x.ofSaying(kind, 5), due[kind]);
        }
    }

    private static void p8OfSayingWeakens() {
        WellTold x = sevenKinds(5);
        weakens("8: rain 0", x, 1, 0, 2, 0, 0, 3, 0);
        x.rain(9);
        // v is 1 + 9 / 2 = 5; m is 5, its rest by 3 is 2.
        weakens("8: rain 9", x, 5, 4, 10, 0, 2, 11, 2);
        Checks.text(x, 0, "s+m");
        weakens("8: s+m", x, 55, 54, 110, 0, 52, 111, 27);
        Checks.text(x, 0, "2");
        weakens("8: 2", x, 2, 1, 4, 0, 0, 5, 1);
        Checks.text(x, 0, "0");
        weakens("8: 0", x, 0, 0, 0, 0, 0, 1, 0);
        Checks.text(x, 0, "999");
        weakens("8: 999", x, 99, 98, 198, 0, 96, 199, 49);
        // m is 6, its rest by 3 is 0: LOVE as SECRET.
        WellTold y = sevenKinds(6);
        weakens("8: m 6, rain 0", y, 1, 0, 2, 0, 0, 3, 0);
        Checks.text(y, 0, "0");
        weakens("8: m 6, 0", y, 0, 0, 0, 0, 0, 1, 0);
        Checks.text(y, 0, "3");
        weakens("8: m 6, 3", y, 3, 2, 6, 0, 2, 7, 1);
    }

    private static void p8OfSayingGoesOn() {
        WellTold x = sevenKinds(0);
        int[] none = {-1, -1, -1, -1, -1, -1, -1};
        goesOn("8: no ways", x, none);
        x.way(1, 0, 1);
        goesOn("8: ways to it", x, none);
        x.way(0, 1, 1);
        x.way(0, 2, 1);
        x.way(2, 3, 1);
        x.way(0, 1, 2);
        goesOn("8: three ways", x, 1, 1, 4, -1, 1, 4, 1);
        x.stop(1, 1);
        goesOn("8: the first is stopped", x, 2, 2, 4, -1, 2, 4, 2);
        x.stop(2, 1);
        x.stop(4, 1);
        goesOn("8: all are stopped", x, none);
        x.stop(2, 0);
        goesOn("8: one is left", x, 2, 2, 2, -1, 2, 2, 2);
        x.folk(1, 0);
        goesOn("8: one drinks elsewhere", x, 2, 2, 2, -1, 2, 2, 2);
        x.folk(0, 0);
        goesOn("8: one drinks there", x, 2, 2, 2, -1, -1, 2, 2);
        x.drink(1, 2, 16);
        goesOn("8: who knows it", x, 2, 2, 2, -1, 2, 2, 2);
        x.folk(0, 0);
        goesOn("8: and another", x, 2, 2, 2, -1, -1, 2, 2);
    }

    private static void p8OfSayingByWayNothing() {
        WellTold x = sevenKinds(0);
        x.way(0, 1, 1);
        goesOn("8: way 0 alone", x, 0, 0, 0, -1, 0, 0, 0);
    }

    private static void goesOn(String what, WellTold x, int... due) {
        for (int kind = 0; kind < 7; kind++) {
            due(what + ": kind " + kind + " goes on by", x.ofSaying(kind, 6), due[kind]);
        }
    }

    private static void p8OfSayingOthers() {
        WellTold x = new WellTold();
        due("8: none yet", x.ofSaying(0, 0), BEYOND);
        x.call(67, 3, 42);
        x.call(10, 0, 1);
        x.folk(0, 0);
        x.folk(1, 0);
        x.drink(1, 2, 1);
        int[] first = {6, 7, 3, 42, 0, 0, -1, 2};
        for (int what = 0; what < first.length; what++) {
            due("8: ofSaying(0, " + what + ")", x.ofSaying(0, what), first[what]);
        }
        due("8: what 8", x.ofSaying(0, 8), BEYOND);
        due("8: what -1", x.ofSaying(0, -1), BEYOND);
        due("8: saying 2", x.ofSaying(2, 0), BEYOND);
        due("8: saying -1", x.ofSaying(-1, 0), BEYOND);
        // On its way the WAY is still the one from AT.
        WellTold y = new WellTold();
        y.way(0, 1, 5);
        y.way(1, 2, 1);
        y.call(0, 0, 50);
        y.hours(1);
        due("8: at the other end", y.ofSaying(0, 2), 1);
        due("8: on its way", y.ofSaying(0, 4), 5);
        due("8: goes on from there", y.ofSaying(0, 6), 1);
    }

    private static void p9Change() {
        WellTold x = new WellTold();
        due("9: none yet", x.change(0, 0, 0), BEYOND);
        x.way(0, 1, 9);
        x.call(0, 0, 50);
        x.hours(1);
        due("9: strength", x.change(0, 1, 99), 49);
        due("9: strength alone leaves it on its way", x.ofSaying(0, 4), 9);
        due("9: at", x.change(0, 0, 3), 1);
        due("9: it is there", x.ofSaying(0, 4), 0);
        due("9: at 3", x.ofSaying(0, 2), 3);
        due("9: strength stays", x.ofSaying(0, 3), 99);
        due("9: strength 0", x.change(0, 1, 0), 99);
        due("9: strength 100", x.change(0, 1, 100), BEYOND);
        due("9: strength -1", x.change(0, 1, -1), BEYOND);
        due("9: at 4", x.change(0, 0, 4), BEYOND);
        due("9: at -1", x.change(0, 0, -1), BEYOND);
        due("9: what 2", x.change(0, 2, 0), BEYOND);
        due("9: what -1", x.change(0, -1, 0), BEYOND);
        due("9: saying 1", x.change(1, 0, 0), BEYOND);
    }

    private static void p10Become() {
        WellTold x = new WellTold();
        due("10: none yet", x.become(0, 0), BEYOND);
        x.call(25, 1, 60);
        due("10: become(0, 69)", x.become(0, 69), 2);
        due("10: kind", x.ofSaying(0, 0), 6);
        due("10: m", x.ofSaying(0, 1), 9);
        due("10: at stays", x.ofSaying(0, 2), 1);
        due("10: strength stays", x.ofSaying(0, 3), 60);
        due("10: become(0, 0)", x.become(0, 0), 6);
        due("10: m 0", x.ofSaying(0, 1), 0);
        due("10: km 70", x.become(0, 70), BEYOND);
        due("10: km -1", x.become(0, -1), BEYOND);
        due("10: saying 1", x.become(1, 0), BEYOND);
        due("10: saying -1", x.become(-1, 0), BEYOND);
    }

    private static void p11As() {
        WellTold x = sevenKinds(7);
        String[] isOfKind = {"1000000", "1100000", "1010000", "1001000", "1100100", "1010010", "1001001"};
        for (int saying = 0; saying < 7; saying++) {
            for (int kind = 0; kind < 7; kind++) {
                boolean is = isOfKind[saying].charAt(kind) == '1';
                due("11: as(" + saying + ", " + kind + ")", x.as(saying, kind), is ? 7 : KIND);
            }
        }
        due("11: kind 7", x.as(0, 7), BEYOND);
        due("11: kind -1", x.as(0, -1), BEYOND);
        due("11: saying 7", x.as(7, 0), BEYOND);
        due("11: saying -1", x.as(-1, 6), BEYOND);
    }

    private static void p12Folk() {
        WellTold x = new WellTold();
        due("12: well 4", x.folk(4, 0), BEYOND);
        due("12: well -1", x.folk(-1, 0), BEYOND);
        due("12: palate 100", x.folk(0, 100), BEYOND);
        due("12: palate -1", x.folk(0, -1), BEYOND);
        for (int i = 0; i < 6; i++) {
            due("12: folk " + i, x.folk(3, 99), i);
        }
        due("12: FULL", x.folk(0, 0), FULL);
        due("12: BEYOND is asked first", x.folk(4, 0), BEYOND);
        due("12: count(3)", x.count(3), 6);
    }

    private static void p13OfFolk() {
        WellTold x = new WellTold();
        due("13: none yet", x.ofFolk(0, 0), BEYOND);
        x.folk(3, 99);
        x.folk(1, 0);
        x.call(0, 1, 5);
        x.call(30, 0, 50);
        x.call(30, 1, 50);
        x.hours(1);
        due("13: well", x.ofFolk(0, 0), 3);
        due("13: palate", x.ofFolk(0, 1), 99);
        due("13: knows", x.ofFolk(0, 2), 0);
        due("13: well of 1", x.ofFolk(1, 0), 1);
        due("13: palate of 1", x.ofFolk(1, 1), 0);
        due("13: knows of 1", x.ofFolk(1, 2), 5);
        due("13: what 3", x.ofFolk(0, 3), BEYOND);
        due("13: what -1", x.ofFolk(0, -1), BEYOND);
        due("13: one 2", x.ofFolk(2, 0), BEYOND);
        due("13: one -1", x.ofFolk(-1, 0), BEYOND);
    }

    private static void p14Drink() {
        WellTold x = new WellTold();
        due("14: none yet", x.drink(0, 0, 0), BEYOND);
        x.folk(0, 0);
        x.folk(0, 1);
        due("14: well", x.drink(1, 0, 3), 0);
        due("14: palate", x.drink(1, 1, 99), 1);
        due("14: nothing to know", x.drink(1, 2, 0), 0);
        due("14: there is no saying 0", x.drink(1, 2, 1), BEYOND);
        x.call(0, 0, 0);
        x.call(0, 0, 0);
        due("14: knows both", x.drink(1, 2, 3), 0);
        due("14: there is no saying 2", x.drink(1, 2, 4), BEYOND);
        due("14: knows one", x.drink(1, 2, 2), 3);
        due("14: knows -1", x.drink(1, 2, -1), BEYOND);
        due("14: the other knows nothing", x.ofFolk(0, 2), 0);
        due("14: who knows 1", x.ofSaying(1, 7), 2);
        due("14: well is 3", x.ofFolk(1, 0), 3);
        due("14: palate is 99", x.ofFolk(1, 1), 99);
        due("14: well 4", x.drink(1, 0, 4), BEYOND);
        due("14: well -1", x.drink(1, 0, -1), BEYOND);
        due("14: palate 0", x.drink(1, 1, 0), 99);
        due("14: palate 99", x.drink(1, 1, 99), 0);
        due("14: palate 100", x.drink(1, 1, 100), BEYOND);
        due("14: palate -1", x.drink(1, 1, -1), BEYOND);
        due("14: what 3", x.drink(1, 3, 0), BEYOND);
        due("14: what -1", x.drink(1, -1, 0), BEYOND);
        due("14: one 2", x.drink(2, 0, 0), BEYOND);
        for (int i = 0; i < 6; i++) {
            x.call(0, 0, 0);
        }
        due("14: all eight", x.drink(0, 2, 255), 0);
        due("14: 256", x.drink(0, 2, 256), BEYOND);
        due("14: all eight stay", x.ofFolk(0, 2), 255);
    }

    // ---- texts

    private static void p15Feed() {
        WellTold x = new WellTold();
        due("15: n 0", x.feed(0, 0), BEYOND);
        due("15: n 9", x.feed(0, 9), BEYOND);
        due("15: n -1", x.feed(0, -1), BEYOND);
        // The lowest byte first: "m-1", and the bytes above are not taken.
        due("15: three bytes", x.feed(0x7878_7878_7831_2d6dL, 3), 3);
        due("15: it is m-1", x.text(0), 1);
        due("15: it gives m-1", x.law(0, 0, 8, 0), 7);
        due("15: eight bytes", x.feed(0x3131_3131_2b2b_2b2bL, 8), 8);
        for (int i = 2; i <= 6; i++) {
            due("15: eight more", x.feed(-1L, 8), 8 * i);
        }
        due("15: three more", x.feed(0, 3), FULL);
        due("15: BEYOND is asked first", x.feed(0, 9), BEYOND);
        due("15: two more", x.feed(0, 2), 50);
        due("15: one more", x.feed(0, 1), FULL);
        due("15: count(9)", x.count(9), 50);
    }

    private static void text(String text, int use, int due) {
        WellTold x = new WellTold();
        due("16: text of " + text, Checks.text(x, use, text), due);
        due("16: the tape is empty behind " + text, x.count(9), 0);
    }

    private static void p16TextFaults() {
        text("", 0, -10);
        text("s", 0, 1);
        text("m", 0, 1);
        text("r", 0, 1);
        text("p", 0, -10);
        text("s+h", 0, -12);
        text("s", 1, 1);
        text("p", 1, 1);
        text("h", 1, 1);
        text("m", 1, -10);
        text("s+r", 1, -12);
        text("1234", 0, 1);
        text("12345", 0, -14);
        text("0000", 0, 1);
        text("ss", 0, -11);
        text("1s", 0, -11);
        text("s1", 0, -11);
        text("s+", 0, -12);
        text("+s", 0, -10);
        text("s +m", 0, -11);
        text("s-*m", 0, -12);
        text("1<2", 0, 1);
        text("1<2<3", 0, -13);
        text("1=2>3", 0, -13);
        text("1<2&3>4|5=6", 0, 1);
        text("1<(2<3)", 0, 1);
        text("(1<2)<3", 0, 1);
        text("(1<2<3)", 0, -14);
        text("1<!2<3", 0, -14);
        text("(s", 0, -12);
        text("()", 0, -11);
        text("s)", 0, -11);
        text("(s))", 0, -13);
        text("!!!!!s", 0, 1);
        text("!!!!!!s", 0, -15);
        text("(((((s)))))", 0, 1);
        text("((((((s))))))", 0, -15);
        text("!(!(!s))", 0, 1);
        text("!(!(!(s)))", 0, -15);
        text("!(!(!!s))", 0, -15);
        text("(!!!!s)+(!!!!s)", 0, 1);
        text("!!!!!s+!!!!!s+((((!s))))", 0, 1);
        text("!", 0, -11);
        text("a", 0, -10);
        text("S", 0, -10);
        text("s^m", 0, -11);
        text("s\u00e9", 0, -11);
        text("s\0", 0, -11);
        text("1/0%0", 0, 1);
        text("s+m+r+s+m+r+s+m+r+s+m+r+s+m+r+s+m+r+s+m+r+s+m+r+12", 0, 1);
        text("s+m+r+s+m+r+s+m+r+s+m+r+s+m+r+s+m+r+s+m+r+s+m+r+1+", 0, -60);
        text("s+m+r+s+m+r+s+m+r+s+m+r+s+m+r+s+m+r+s+m+r+s+m+r+1(", 0, -59);
    }

    private static void p16TextKeepsTheOneAhead() {
        WellTold x = new WellTold();
        due("16: m", Checks.text(x, 0, "m"), 1);
        due("16: m is read", x.law(0, 1, 7, 3), 7);
        Checks.feed(x, "r");
        due("16: use 2", x.text(2), BEYOND);
        due("16: use -1", x.text(-1), BEYOND);
        due("16: the tape stays", x.count(9), 1);
        due("16: r", x.text(0), 1);
        due("16: r is read", x.law(0, 1, 7, 3), 3);
        due("16: a fault", Checks.text(x, 0, "s+m+"), -14);
        due("16: the one ahead stays", x.law(0, 1, 7, 3), 3);
        due("16: a fault is no ERROR", x.told(1), 2);
        due("16: the uses are apart", x.law(1, 0, 0, 0), 1);
    }

    private static void law(String text, int a, int b, int c, int due) {
        WellTold x = new WellTold();
        due("17: text of " + text, Checks.text(x, 0, text), 1);
        due("17: law of " + text, x.law(0, a, b, c), due);
    }

    private static void p17LawSigns() {
        law("s*100%7+m*r", 3, 4, 5, 26);
        law("9-4-3", 0, 0, 0, 2);
        law("80/4/5", 0, 0, 0, 4);
        law("80/(4*5)", 0, 0, 0, 4);
        law("2+3*4", 0, 0, 0, 14);
        law("(2+3)*4", 0, 0, 0, 20);
        law("s/m", 7, 0, 0, 0);
        law("s%m+5", 7, 0, 0, 5);
        law("0-s/2", -7, 0, 0, 3);
        law("0-s%4", -7, 0, 0, 3);
        law("s|m", 0, 0, 0, 0);
        law("s|m", 0, 5, 0, 1);
        law("s|m", -2, 0, 0, 1);
        law("5+(s|m)", 0, 0, 0, 5);
        law("5+(s&m)", 0, 1, 0, 5);
        law("5+(s<m)", 2, 2, 0, 5);
        law("5+(s=m)", 2, 3, 0, 5);
        law("5+(s>m)", 2, 2, 0, 5);
        law("5+!s", 2, 2, 0, 5);
        law("5+s/m", 2, 0, 0, 5);
        law("s&m", 4, 2, 0, 1);
        law("s&m", 4, 0, 0, 0);
        law("1|0&0", 0, 0, 0, 1);
        law("2|2&0", 0, 0, 0, 1);
        law("s<m", 1, 2, 0, 1);
        law("s<m", 2, 2, 0, 0);
        law("s=m", 2, 2, 0, 1);
        law("s=m", 2, 3, 0, 0);
        law("s>m", 3, 2, 0, 1);
        law("s>m", 2, 2, 0, 0);
        law("s<m+2", 2, 1, 0, 1);
        law("s<m&3", 1, 2, 0, 1);
        law("!s", 0, 0, 0, 1);
        law("!s", 7, 0, 0, 0);
        law("!!s", 7, 0, 0, 1);
        law("!s+3", 0, 0, 0, 4);
        law("!(s+3)", 0, 0, 0, 0);
        law("!s*5", 0, 0, 0, 5);
        law("50", 0, 0, 0, 50);
        law("0050", 0, 0, 0, 50);
        law("(s|0)+(m&9)", 5, 5, 0, 2);
        // Ints wrap: the least by -1 is the least, and its rest is 0.
        law("s/m+1=s+1", LEAST, -1, 0, 1);
        law("s%m+9", LEAST, -1, 0, 9);
        law("s+1<0", MOST, 0, 0, 1);
        law("s*s=0", 65536, 0, 0, 1);
        law("9999*9999*9999<0", 0, 0, 0, 1);
    }

    private static void p17LawHeldWithin() {
        WellTold x = new WellTold();
        due("17: no text, rain 0", x.law(0, 9, 9, 0), 1);
        due("17: no text, rain 9", x.law(0, 9, 9, 9), 5);
        due("17: no text, r -3", x.law(0, 9, 9, -3), 0);
        due("17: no text, r -1", x.law(0, 9, 9, -1), 1);
        due("17: no text, tastes", x.law(1, 0, 99, 9), 1);
        Checks.text(x, 0, "s-m");
        due("17: above 99", x.law(0, 100, 0, 0), 99);
        due("17: at 99", x.law(0, 99, 0, 0), 99);
        due("17: below 0", x.law(0, 0, 1, 0), 0);
        Checks.text(x, 1, "s-p+h*0");
        due("17: tastes above 1", x.law(1, 9, 2, 0), 1);
        due("17: tastes 1", x.law(1, 3, 2, 0), 1);
        due("17: tastes 0", x.law(1, 2, 2, 0), 0);
        due("17: tastes below 0", x.law(1, 1, 2, 0), 0);
        Checks.text(x, 1, "h");
        due("17: tastes by h", x.law(1, 0, 0, 1), 1);
        due("17: use 2", x.law(2, 0, 0, 0), BEYOND);
        due("17: use -1", x.law(-1, 0, 0, 0), BEYOND);
    }

    private static void p17LawBearsOnHours() {
        // What TASTES is given: STRENGTH as weakened, PALATE of each one, HOUR not yet 1 more.
        WellTold x = new WellTold();
        Checks.text(x, 0, "s=50*10");
        Checks.text(x, 1, "s=40&p=7&h=3");
        x.folk(0, 6);
        x.folk(0, 7);
        x.call(0, 0, 40);
        due("17: hours 0 to 2", x.hours(3), 0);
        due("17: hour 3", x.hours(1), 1);
        due("17: who", x.ofSaying(0, 7), 2);
        x.change(0, 1, 50);
        Checks.text(x, 0, "m=0&r=2&s=50");
        x.hours(1);
        due("17: no rain of 2", x.ofSaying(0, 3), 50);
        x.rain(2);
        x.hours(1);
        due("17: rain of 2", x.ofSaying(0, 3), 49);
    }

    // ---- hours

    private static void p18HoursMoves() {
        WellTold x = new WellTold();
        x.way(0, 1, 2);
        x.way(1, 2, 1);
        x.call(0, 0, 10);
        int[][] due = {{1, 2, 9}, {1, 1, 8}, {1, 0, 7}, {2, 1, 6}, {2, 0, 5}, {2, 0, 4}, {2, 0, 3}, {2, 0, 2}, {2, 0, 1}, {2, 0, 0}, {2, 0, 0}};
        for (int i = 0; i < due.length; i++) {
            due("18: hours(1)", x.hours(1), 0);
            due("18: at, hour " + i, x.ofSaying(0, 2), due[i][0]);
            due("18: on its way, hour " + i, x.ofSaying(0, 4), due[i][1]);
            due("18: strength, hour " + i, x.ofSaying(0, 3), due[i][2]);
            due("18: count(4)", x.count(4), i + 1);
        }
        // Without STRENGTH it goes on all the same.
        x.change(0, 0, 0);
        x.hours(1);
        due("18: without strength", x.ofSaying(0, 2), 1);
    }

    private static void p18HoursTastes() {
        WellTold x = new WellTold();
        x.way(0, 1, 1);
        x.folk(1, 8);
        x.folk(1, 9);
        x.folk(1, 0);
        x.folk(0, 0);
        x.call(0, 0, 10);
        due("18: on its way", x.hours(1), 0);
        due("18: there", x.hours(1), 2);
        due("18: who can taste it", x.ofSaying(0, 7), 5);
        // Strength 0 is tasted by none, even with palate 0.
        x.call(0, 3, 1);
        x.folk(3, 0);
        due("18: strength 0", x.hours(1), 2);
        x.call(30, 3, 1);
        due("18: strength 1", x.hours(1), 3);
        // What one KNOWS stays when one goes away.
        x.drink(4, 0, 2);
        due("18: knows still", x.hours(5), 3);
        due("18: knows", x.ofFolk(4, 2), 4);
        // LOVE waits for who drinks there: it is tasted in one HOUR, and goes in the next.
        WellTold y = new WellTold();
        y.way(0, 1, 1);
        y.folk(0, 0);
        y.call(40, 0, 50);
        y.hours(1);
        due("18: love waits", y.ofSaying(0, 2), 0);
        due("18: love is known", y.ofSaying(0, 7), 1);
        y.hours(1);
        due("18: love goes on", y.ofSaying(0, 2), 1);
    }

    private static void p18HoursErrors() {
        WellTold x = new WellTold();
        due("18: hours(0)", x.hours(0), BEYOND);
        due("18: hours(-1)", x.hours(-1), BEYOND);
        due("18: hours(100)", x.hours(100), BEYOND);
        due("18: hours(most)", x.hours(MOST), BEYOND);
        for (int i = 0; i < 101; i++) {
            x.hours(99);
        }
        due("18: count(4)", x.count(4), 9999);
        due("18: hours(1) then", x.hours(1), STATE);
        due("18: loose(1) then", x.loose(1), STATE);
        due("18: BEYOND is asked first", x.hours(100), BEYOND);
        due("18: HOUR stays", x.count(4), 9999);
        due("18: no draw", x.count(12), 1);
        WellTold y = new WellTold();
        for (int i = 0; i < 100; i++) {
            y.hours(99);
        }
        y.hours(98);
        due("18: two more", y.hours(2), STATE);
        due("18: one more", y.hours(1), 0);
        WellTold z = new WellTold();
        for (int i = 0; i < 100; i++) {
            z.hours(99);
        }
        z.hours(59);
        due("19: just to the last", z.loose(40), 0);
        due("19: count(4)", z.count(4), 9999);
    }

    private static void p19Loose() {
        WellTold x = new WellTold();
        due("19: loose(0)", x.loose(0), BEYOND);
        due("19: loose(41)", x.loose(41), BEYOND);
        due("19: loose(-1)", x.loose(-1), BEYOND);
        x.folk(0, 1);
        x.call(0, 0, 99);
        int z = 1;
        int strength = 99;
        int rain = 0;
        for (int i = 0; i < 40; i++) {
            z = z * 1103515245 + 12345;
            rain = (z >>> 8) % 10;
            strength = Math.max(0, strength - 1 - rain / 2);
        }
        due("19: loose(40)", x.loose(40), 1);
        due("19: z", x.count(12), z);
        due("19: rain", x.count(5), rain);
        due("19: strength", x.ofSaying(0, 3), strength);
        due("19: hour", x.count(4), 40);
        // The first draw of z 1: 1103527590 >>> 8 is 4310654, so the RAIN is 4, and it bears on that HOUR.
        WellTold y = new WellTold();
        y.call(0, 0, 99);
        due("19: loose(1)", y.loose(1), 0);
        due("19: rain of the first", y.count(5), 4);
        due("19: strength of the first", y.ofSaying(0, 3), 96);
    }

    // ---- what would be

    /** WELLS 0 to 3 in a row, WAYS of one HOUR: 0 to 1, 1 to 2, 2 to 3; one drinks at each. */
    private static WellTold row(int palate) {
        WellTold x = new WellTold();
        for (int i = 0; i < 3; i++) {
            x.way(i, i + 1, 1);
        }
        for (int i = 0; i < 4; i++) {
            x.folk(i, palate);
        }
        return x;
    }

    private static void p20Then() {
        WellTold x = row(1);
        x.call(0, 0, 50);
        x.call(30, 2, 50);
        // A SAYING goes in HOUR 1, is there in 2, goes in 3, is there in 4: who drinks where it starts never tastes it.
        due("20: then(9, 0)", x.then(9, 0), 0);
        due("20: then(1, 1)", x.then(1, 1), 0);
        due("20: then(2, 1)", x.then(2, 1), 1);
        due("20: then(0, 2)", x.then(0, 2), 0);
        due("20: then(1, 2)", x.then(1, 2), 2);
        due("20: then(4, 2)", x.then(4, 2), 3);
        due("20: then(99, 3)", x.then(99, 3), 1);
        due("20: n 100", x.then(100, 0), BEYOND);
        due("20: n -1", x.then(-1, 0), BEYOND);
        due("20: one 4", x.then(0, 4), BEYOND);
        due("20: one -1", x.then(0, -1), BEYOND);
        x.drink(3, 2, 2);
        due("20: what one knows already", x.then(0, 3), 2);
    }

    private static void p21Learns() {
        WellTold x = row(1);
        x.call(0, 0, 50);
        due("21: one 0", x.learns(0, 0), NONE);
        due("21: one 1", x.learns(1, 0), 2);
        due("21: one 2", x.learns(2, 0), 4);
        due("21: one 3", x.learns(3, 0), 6);
        x.drink(3, 2, 1);
        due("21: who knows it", x.learns(3, 0), 0);
        due("21: one 4", x.learns(4, 0), BEYOND);
        due("21: one -1", x.learns(-1, 0), BEYOND);
        due("21: saying 1", x.learns(0, 1), BEYOND);
        due("21: saying -1", x.learns(0, -1), BEYOND);
        // Behind 99 HOURS, of which the last is HOUR 98, and no later.
        WellTold y = new WellTold();
        y.folk(0, 1);
        y.call(30, 0, 50);
        Checks.text(y, 1, "h=98");
        due("21: behind 99", y.learns(0, 0), 99);
        Checks.text(y, 1, "h=99");
        due("21: not by 99", y.learns(0, 0), NONE);
    }

    private static void p22Calls() {
        WellTold x = row(1);
        x.call(0, 3, 50);
        due("22: who drinks at 1", x.calls(0, 9, 2, 0), 1);
        due("22: who drinks at 2", x.calls(0, 9, 4, 0), 3);
        due("22: who drinks at 3", x.calls(0, 9, 8, 0), 15);
        due("22: at 3, not at 2", x.calls(0, 9, 8, 4), 12);
        due("22: at 3, not at 1 nor 2", x.calls(0, 9, 8, 6), 12);
        due("22: at 3 and 2, not at 1", x.calls(0, 9, 12, 2), 2);
        due("22: at 0", x.calls(0, 9, 1, 0), 0);
        due("22: nobody asked", x.calls(0, 9, 0, 0), 15);
        due("22: not yet", x.calls(0, 1, 8, 0), 8);
        due("22: n 0", x.calls(0, 0, 8, 0), 0);
        due("22: nobody behind 0", x.calls(0, 0, 0, 15), 15);
        due("22: nobody behind 99", x.calls(0, 99, 0, 15), 0);
        due("22: one in both", x.calls(0, 9, 3, 6), BEYOND);
        due("22: there is no one 4", x.calls(0, 9, 16, 0), BEYOND);
        due("22: nor for none", x.calls(0, 9, 0, 16), BEYOND);
        due("22: all -1", x.calls(0, 9, -1, 0), BEYOND);
        due("22: none -1", x.calls(0, 9, 0, -1), BEYOND);
        due("22: n 100", x.calls(0, 100, 0, 0), BEYOND);
        due("22: n -1", x.calls(0, -1, 0, 0), BEYOND);
        due("22: saying 1", x.calls(1, 0, 0, 0), BEYOND);
        due("22: saying -1", x.calls(-1, 0, 0, 0), BEYOND);
        // One that is on its way is there when it is called anew; who KNOWS it already does so.
        WellTold y = new WellTold();
        y.wells(2);
        y.way(0, 1, 9);
        y.folk(1, 1);
        y.call(0, 0, 50);
        y.hours(1);
        due("22: on its way", y.then(1, 0), 0);
        due("22: called anew", y.calls(0, 1, 1, 0), 2);
        y.drink(0, 2, 1);
        due("22: known already", y.calls(0, 0, 1, 0), 3);
        due("22: known already, not to", y.calls(0, 0, 0, 1), 0);
    }

    private static void p23Stops() {
        WellTold x = row(1);
        x.call(0, 0, 50);
        due("23: one way does", x.stops(3, 0, 10), 1);
        due("23: none is wanted", x.stops(3, 0, 5), 0);
        due("23: nor here", x.stops(0, 0, 10), 0);
        due("23: nor behind 0", x.stops(3, 0, 0), 0);
        x.drink(3, 2, 1);
        due("23: who knows it", x.stops(3, 0, 10), NONE);
        due("23: n 11", x.stops(0, 0, 11), BEYOND);
        due("23: n -1", x.stops(0, 0, -1), BEYOND);
        due("23: one 4", x.stops(4, 0, 0), BEYOND);
        due("23: one -1", x.stops(-1, 0, 0), BEYOND);
        due("23: saying 1", x.stops(0, 1, 0), BEYOND);
        due("23: saying -1", x.stops(0, -1, 0), BEYOND);
        // Three WAYS to well 1; a SAYING takes the first that is left.
        WellTold y = new WellTold();
        y.way(0, 1, 1);
        y.way(2, 3, 1);
        y.way(0, 1, 2);
        y.way(0, 1, 3);
        y.folk(1, 1);
        y.call(0, 0, 50);
        due("23: by 4 hours the slowest is too slow", y.stops(0, 0, 3), 5);
        due("23: all three", y.stops(0, 0, 4), 13);
        y.stop(0, 1);
        due("23: only more of them", y.stops(0, 0, 4), 12);
        due("23: one more", y.stops(0, 0, 3), 4);
        y.stop(2, 1);
        due("23: none more", y.stops(0, 0, 3), 0);
        // All that there are.
        WellTold w = new WellTold();
        w.way(0, 1, 1);
        w.way(0, 1, 2);
        w.folk(1, 1);
        w.call(20, 0, 50);
        due("23: both ways", w.stops(0, 0, 10), 3);
        // To stop one may send it by another: the fewest, then the least.
        WellTold z = new WellTold();
        z.way(0, 2, 1);
        z.way(0, 1, 1);
        z.way(2, 1, 1);
        z.folk(1, 1);
        z.call(0, 0, 50);
        due("23: by 2", z.stops(0, 0, 10), 4);
        due("23: it becomes a lie", z.become(0, 20), 0);
        due("23: a lie goes by the last", z.stops(0, 0, 3), 2);
        due("23: nobody can stop it", stopsWhereItIsCalled(), NONE);
    }

    private static int stopsWhereItIsCalled() {
        WellTold x = new WellTold();
        x.folk(0, 1);
        x.call(0, 0, 50);
        return x.stops(0, 0, 1);
    }

    private static void p24Who() {
        WellTold x = new WellTold();
        due("24: missing", x.who(0, 0), NONE);
        x.sheet(0, 8, 0);
        due("24: no folk, no sayings", x.who(0, 0), 0);
        x.call(30, 0, 50);
        x.call(30, 1, 50);
        x.call(30, 0, 9);
        due("24: no folk, three sayings", x.who(0, 0), 7);
        x.folk(0, 10);
        x.folk(1, 10);
        due("24: too few numbers", x.who(0, 0), NONE);
        x.sheet(0, 32, 3);
        due("24: too many numbers", x.who(0, 0), NONE);
        x.sheet(0, 16, 2);
        due("24: none knows, behind 0", x.who(0, 0), 7);
        due("24: none knows, behind 1", x.who(0, 1), 4);
        x.put(0, 0, 1);
        due("24: one 0 alone", x.who(0, 1), 1);
        x.put(0, 0, 0);
        x.put(0, 1, 1);
        due("24: one 1 alone", x.who(0, 1), 2);
        x.put(0, 1, -1);
        due("24: one 1 is not told", x.who(0, 1), 6);
        x.put(0, 0, -32768);
        due("24: none is told", x.who(0, 1), 7);
        x.put(0, 0, 2);
        due("24: 2 fits none", x.who(0, 1), 0);
        numbers(x, 0, 16, 1, -1, 2);
        numbers(x, 0, 16, 1, -1);
        due("24: the third is gone", x.who(0, 1), 1);
        due("24: sheet 4", x.who(4, 0), BEYOND);
        due("24: sheet -1", x.who(-1, 0), BEYOND);
        due("24: n 100", x.who(0, 100), BEYOND);
        due("24: n -1", x.who(0, -1), BEYOND);
        due("24: BEYOND is asked first", x.who(3, 100), BEYOND);
    }

    private static void p25Loud() {
        WellTold x = new WellTold();
        x.call(0, 0, 5);
        x.call(30, 0, 5);
        due("25: missing", x.loud(0, 0, 0, 0), NONE);
        x.sheet(0, 8, 0);
        due("25: no folk: all strengths", x.loud(0, 0, 0, 0), 100);
        due("25: no folk: the least", x.loud(0, 0, 0, 1), 0);
        x.folk(0, 20);
        x.folk(0, 50);
        due("25: too few numbers", x.loud(0, 0, 1, 0), NONE);
        x.sheet(0, 8, 2);
        // Behind 1 HOUR, STRENGTH is 1 less: known to one 0 from 21 up, to one 1 from 51 up.
        due("25: to none", x.loud(0, 0, 1, 0), 21);
        due("25: to none, least", x.loud(0, 0, 1, 1), 0);
        x.put(0, 0, 1);
        due("25: to one 0", x.loud(0, 0, 1, 0), 30);
        due("25: to one 0, least", x.loud(0, 0, 1, 1), 21);
        due("25: of a name", x.loud(0, 1, 20, 1), 20);
        x.put(0, 1, 1);
        due("25: to both", x.loud(0, 0, 20, 0), 49);
        due("25: to both, least", x.loud(0, 0, 20, 1), 51);
        x.put(0, 0, 0);
        due("25: to one 1 alone", x.loud(0, 0, 1, 0), 0);
        due("25: to one 1 alone, least", x.loud(0, 0, 1, 1), NONE);
        due("25: what 2", x.loud(0, 0, 1, 2), BEYOND);
        due("25: what -1", x.loud(0, 0, 1, -1), BEYOND);
        due("25: n 21", x.loud(0, 0, 21, 0), BEYOND);
        due("25: n -1", x.loud(0, 0, -1, 0), BEYOND);
        due("25: saying 2", x.loud(0, 2, 0, 0), BEYOND);
        due("25: saying -1", x.loud(0, -1, 0, 0), BEYOND);
        due("25: sheet 4", x.loud(4, 0, 0, 0), BEYOND);
        due("25: sheet -1", x.loud(-1, 0, 0, 0), BEYOND);
        due("25: BEYOND is asked first", x.loud(3, 0, 21, 0), BEYOND);
        due("25: strength stays", x.ofSaying(0, 3), 5);
    }

    private static void p26Alike() {
        WellTold x = new WellTold();
        due("26: no folk", x.alike(0), 0);
        for (int i = 0; i < 6; i++) {
            x.folk(i / 2, 1);
        }
        due("26: all know nothing", x.alike(0), 15);
        x.call(30, 0, 50);
        due("26: two know one", x.alike(1), 1 + 6);
        x.call(30, 1, 50);
        due("26: three pairs", x.alike(1), 3);
        x.drink(0, 2, 2);
        due("26: one knows both", x.alike(99), 2);
        due("26: now", x.alike(0), 10);
        due("26: n 100", x.alike(100), BEYOND);
        due("26: n -1", x.alike(-1), BEYOND);
    }

    private static void p27Furthest() {
        WellTold x = row(1);
        due("27: no sayings", x.furthest(0, 0), NONE);
        due("27: BEYOND is asked first", x.furthest(100, 0), BEYOND);
        due("27: what 2", x.furthest(0, 2), BEYOND);
        due("27: what -1", x.furthest(0, -1), BEYOND);
        due("27: n -1", x.furthest(-1, 0), BEYOND);
        x.call(30, 1, 50);
        x.call(0, 0, 50);
        x.call(0, 0, 60);
        due("27: behind 0", x.furthest(0, 0), 0);
        due("27: behind 0, how many", x.furthest(0, 1), 0);
        due("27: behind 2: the least of several", x.furthest(2, 0), 0);
        due("27: behind 2, how many", x.furthest(2, 1), 1);
        due("27: behind 4", x.furthest(4, 0), 1);
        due("27: behind 4, how many", x.furthest(4, 1), 2);
        due("27: behind 99", x.furthest(99, 0), 1);
        due("27: behind 99, how many", x.furthest(99, 1), 3);
    }

    private static void odds(WellTold x, int n, int above, int below) {
        due("28: above, behind " + n, x.odds(0, 0, n, 0), above);
        due("28: below, behind " + n, x.odds(0, 0, n, 1), below);
    }

    private static void p28Odds() {
        WellTold x = new WellTold();
        x.folk(0, 1);
        x.call(0, 0, 50);
        x.rain(7);
        int[][] due = {{0, 1}, {1, 10}, {1, 5}, {3, 10}, {2, 5}, {1, 2}, {3, 5}, {7, 10}, {4, 5}, {9, 10}, {1, 1}};
        for (int below = 0; below <= 10; below++) {
            // STRENGTH is less by 50 unless RAIN is below that number.
            Checks.text(x, 0, "50*!(r<" + below + ")");
            odds(x, 1, due[below][0], due[below][1]);
        }
        odds(x, 0, 0, 1);
        x.drink(0, 2, 1);
        odds(x, 0, 1, 1);
        due("28: rain stays", x.count(5), 7);
        due("28: part 2", x.odds(0, 0, 0, 2), BEYOND);
        due("28: part -1", x.odds(0, 0, 0, -1), BEYOND);
        due("28: n 100", x.odds(0, 0, 100, 0), BEYOND);
        due("28: n -1", x.odds(0, 0, -1, 0), BEYOND);
        due("28: one 1", x.odds(1, 0, 0, 0), BEYOND);
        due("28: one -1", x.odds(-1, 0, 0, 0), BEYOND);
        due("28: saying 1", x.odds(0, 1, 0, 0), BEYOND);
        due("28: saying -1", x.odds(0, -1, 0, 0), BEYOND);
    }

    private static void thoughtsChangeNothing() {
        WellTold x = row(1);
        x.call(0, 0, 50);
        x.sheet(0, 8, 4);
        x.then(99, 1);
        x.learns(3, 0);
        x.calls(0, 50, 1, 0);
        x.stops(3, 0, 10);
        x.who(0, 50);
        x.loud(0, 0, 20, 0);
        x.alike(50);
        x.furthest(50, 0);
        x.odds(3, 0, 50, 0);
        x.tell(1);
        x.check();
        int[] due = {0, 0, 0, 50, 0, 1, 0, 0};
        for (int what = 0; what < due.length; what++) {
            due("20 to 28: ofSaying(0, " + what + ") stays", x.ofSaying(0, what), due[what]);
        }
        due("20 to 28: HOUR stays", x.count(4), 0);
        due("20 to 28: RAIN stays", x.count(5), 0);
        due("20 to 28: stopped ways stay", x.count(6), 0);
        due("20 to 28: nobody knows", x.count(8), 0);
    }

    private static void thoughtsGoBeyondTheLastHour() {
        WellTold x = new WellTold();
        for (int i = 0; i < 101; i++) {
            x.hours(99);
        }
        x.folk(0, 1);
        x.call(30, 0, 50);
        Checks.text(x, 1, "h>9999&h=9999+2");
        due("20: not behind 2", x.then(2, 0), 0);
        due("20: behind 3", x.then(3, 0), 1);
        due("21: behind 3", x.learns(0, 0), 3);
        due("28: behind 3", x.odds(0, 0, 3, 0), 1);
    }

    // ---- draws, voices, sheets, images, what is told

    private static void p29Seed() {
        WellTold x = new WellTold();
        due("29: seed(-5)", x.seed(-5), 1);
        due("29: seed(least)", x.seed(LEAST), -5);
        due("29: seed(0)", x.seed(0), LEAST);
        due("29: count(12)", x.count(12), 0);
        // z 0 gives 12345, and 12345 >>> 8 is 48.
        x.loose(1);
        due("29: rain of z 0", x.count(5), 8);
        due("29: z behind 0", x.count(12), 12345);
        // An answer that looks like an ERROR is none.
        x.seed(BEYOND);
        due("29: seed gives it back", x.seed(1), BEYOND);
        due("29: none is told", x.told(1), 0);
        // z below 0: -2 * 1103515245 + 12345 wraps to 2087949151, >>> 8 is 8156051.
        x.seed(-2);
        x.loose(1);
        due("29: z behind -2", x.count(12), -2 * 1103515245 + 12345);
        due("29: rain of z -2", x.count(5), 1);
        x.seed(-1);
        x.loose(1);
        due("29: rain of a z below 0", x.count(5), (-1103502900 >>> 8) % 10);
    }

    private static void voice(int km, int act, int x, int due, int... trace) {
        // The SAYING's number is 1, so that n is told from m and from 0.
        WellTold w = new WellTold();
        w.call(0, 0, 0);
        w.call(km, 0, 0);
        String what = "30: voice of " + km + ", act " + act + ", x " + x;
        due(what, w.voice(1, act, x), due);
        due("31: bodies, " + what, w.count(11), trace.length);
        for (int i = 0; i < trace.length; i++) {
            due("31: trace(" + i + "), " + what, w.trace(i), trace[i]);
        }
    }

    private static void p30VoicesOfKinds() {
        voice(3, 0, 5, 6, 10);
        voice(3, 1, 5, 12, 11, 10);
        voice(3, 2, 5, 2, 12);
        voice(3, 3, 5, 12 ^ 2, 13, 11, 10, 12);
        voice(13, 0, 5, 18, 20, 10);
        voice(13, 1, 5, 36, 11, 20, 10);
        voice(13, 2, 5, 2, 12);
        voice(13, 3, 5, 36 ^ 2, 13, 11, 20, 10, 12);
        voice(23, 0, 5, 6, 10);
        voice(23, 1, 5, 12 - (1 - 3), 30, 11, 10, 12);
        voice(23, 2, 5, 2, 12);
        voice(23, 3, 5, 14 ^ 2, 13, 30, 11, 10, 12, 12);
        voice(33, 0, 5, 6, 10);
        voice(33, 1, 5, 12, 11, 10);
        voice(33, 2, 5, -2, 40, 12);
        voice(33, 3, 5, 12 ^ -2, 13, 11, 10, 40, 12);
        voice(43, 0, 5, 18, 20, 10);
        voice(43, 1, 5, 36, 11, 20, 10);
        voice(43, 2, 5, 2, 12);
        voice(43, 3, 5, (36 ^ 2) - 9, 50, 13, 11, 20, 10, 12, 20, 10);
        voice(53, 0, 5, 6, 10);
        voice(53, 1, 5, 14 + 2, 60, 30, 11, 10, 12);
        voice(53, 2, 5, 2, 12);
        voice(53, 3, 5, 16 ^ 2, 13, 60, 30, 11, 10, 12, 12);
        voice(63, 0, 5, 6, 10);
        voice(63, 1, 5, 12, 11, 10);
        voice(63, 2, 5, -2 ^ 1, 70, 40, 12);
        voice(63, 3, 5, 12 - (12 ^ -2 ^ 1), 71, 11, 10, 13, 11, 10, 70, 40, 12);
        voice(0, 0, MOST, LEAST, 10);
        voice(0, 1, MOST, 0, 11, 10);
        voice(9, 2, LEAST, MOST - 8, 12);
        voice(30, 2, LEAST, LEAST, 40, 12);
        WellTold x = new WellTold();
        due("30: none yet", x.voice(0, 0, 0), BEYOND);
        x.call(0, 0, 0);
        due("30: act 4", x.voice(0, 4, 0), BEYOND);
        due("30: act -1", x.voice(0, -1, 0), BEYOND);
        due("30: saying -1", x.voice(-1, 0, 0), BEYOND);
        // An answer that looks like an ERROR is none.
        due("30: any number", x.voice(0, 0, NONE), NONE);
        due("30: none is told", x.told(2), 0);
    }

    private static void p31Trace() {
        WellTold x = new WellTold();
        due("31: none yet", x.trace(0), NONE);
        x.call(0, 0, 0);
        x.voice(0, 3, 0);
        due("31: trace(3)", x.trace(3), 12);
        due("31: trace(4)", x.trace(4), NONE);
        due("31: trace(-1)", x.trace(-1), NONE);
        due("31: an ERROR", x.voice(0, 9, 0), BEYOND);
        due("31: leaves it", x.count(11), 4);
        x.voice(0, 0, 0);
        due("31: the latest", x.count(11), 1);
        due("31: trace(0)", x.trace(0), 10);
        due("31: trace(1)", x.trace(1), NONE);
    }

    private static void p32Sheet() {
        WellTold x = new WellTold();
        due("32: sheet 4", x.sheet(4, 8, 1), BEYOND);
        due("32: sheet -1", x.sheet(-1, 8, 1), BEYOND);
        due("32: bits 7", x.sheet(0, 7, 1), BEYOND);
        due("32: bits 64", x.sheet(0, 64, 1), BEYOND);
        due("32: bits -8", x.sheet(0, -8, 1), BEYOND);
        due("32: n -1", x.sheet(0, 8, -1), STATE);
        due("32: n least", x.sheet(0, 32, LEAST), STATE);
        due("32: sheet, then n", x.sheet(4, 8, -1), BEYOND);
        due("32: bits, then n", x.sheet(0, 9, -1), BEYOND);
        due("32: n 41", x.sheet(0, 8, 41), BEYOND);
        due("32: none was made", x.judge(0), NONE);
        due("32: n 40", x.sheet(3, 32, 40), 1);
        due("32: the last number", x.put(3, 39, 1), 1);
        due("32: n 0", x.sheet(3, 16, 0), 1);
        due("32: no number", x.put(3, 0, 1), BEYOND);
        due("32: bits 0", x.sheet(3, 0, -7), 1);
        due("32: it is missing", x.judge(3), NONE);
        due("32: bits 0, n 99", x.sheet(2, 0, 99), 1);
        // Made anew, all numbers are 0.
        x.call(0, 0, 0);
        x.sheet(0, 8, 1);
        x.put(0, 0, 9);
        due("32: 9 is no strength", x.judge(0), 0);
        x.sheet(0, 8, 1);
        due("32: 0 again", x.judge(0), -1);
    }

    private static void p33Put() {
        WellTold x = new WellTold();
        due("33: missing", x.put(0, 0, 0), NONE);
        due("33: sheet 4", x.put(4, 0, 0), BEYOND);
        due("33: sheet -1", x.put(-1, 0, 0), BEYOND);
        due("33: missing is asked ahead of the number", x.put(0, 99, 0), NONE);
        x.sheet(0, 8, 2);
        due("33: number 2", x.put(0, 2, 0), BEYOND);
        due("33: number -1", x.put(0, -1, 0), BEYOND);
        due("33: number 1", x.put(0, 1, 5), 1);
        x.call(0, 0, 0);
        x.call(0, 0, 5);
        due("33: it is 5", x.judge(0), -1);
        lowestBits(8, 256 + 7, 7, 1);
        lowestBits(8, 128 + 7, 7, 0);
        lowestBits(16, 65536 + 7, 7, 1);
        lowestBits(16, 32768 + 7, 7, 0);
        lowestBits(16, 256 + 7, 7, 0);
        lowestBits(32, 65536 + 7, 7, 0);
        lowestBits(32, 7, 7, 1);
        notTold(8, 255);
        notTold(8, 128);
        notTold(16, 65535);
        notTold(16, 32768);
        notTold(32, LEAST);
    }

    private static void lowestBits(int bits, int v, int strength, int same) {
        WellTold x = new WellTold();
        x.call(0, 0, strength);
        x.sheet(1, bits, 1);
        x.put(1, 0, v);
        due("33: " + v + " in " + bits + " bits", x.judge(1), same == 1 ? -1 : 0);
    }

    private static void notTold(int bits, int v) {
        WellTold x = new WellTold();
        x.call(0, 0, 0);
        x.folk(0, 0);
        x.sheet(1, bits, 1);
        x.put(1, 0, v);
        due("33: " + v + " in " + bits + " bits is below 0", x.who(1, 0), 1);
    }

    private static void p34Move() {
        WellTold x = strengths(1, 2, 3, 4);
        numbers(x, 0, 8, 1, 2, 3, 4, 5);
        due("34: up in one row", x.move(0, 0, 0, 1, 4), 4);
        isRow("34: up", x, 0, 1, 1, 2, 3, 4);
        due("34: down in one row", x.move(0, 1, 0, 0, 4), 4);
        isRow("34: down", x, 0, 1, 2, 3, 4, 4);
        numbers(x, 1, 8, 9, 9);
        due("34: to another", x.move(0, 2, 1, 0, 2), 2);
        isRow("34: another", x, 1, 3, 4);
        isRow("34: the first stays", x, 0, 1, 2, 3, 4, 4);
        due("34: none", x.move(0, 5, 1, 2, 0), 0);
        due("34: sheet 4", x.move(4, 0, 0, 0, 0), BEYOND);
        due("34: other 4", x.move(0, 0, 4, 0, 0), BEYOND);
        due("34: sheet -1", x.move(-1, 0, 0, 0, 0), BEYOND);
        due("34: other -1", x.move(0, 0, -1, 0, 0), BEYOND);
        due("34: BEYOND ahead of NONE", x.move(2, 0, 4, 0, 0), BEYOND);
        due("34: one is missing", x.move(2, 0, 0, 0, 0), NONE);
        due("34: the other is missing", x.move(0, 0, 2, 0, -1), NONE);
        x.sheet(2, 16, 5);
        due("34: unlike bits", x.move(0, 0, 2, 0, 1), KIND);
        due("34: KIND ahead of BEYOND", x.move(0, 0, 2, 0, -1), KIND);
        due("34: n -1", x.move(0, 0, 1, 0, -1), BEYOND);
        due("34: i -1", x.move(0, -1, 1, 0, 1), BEYOND);
        due("34: j -1", x.move(0, 0, 1, -1, 1), BEYOND);
        due("34: i too far", x.move(0, 4, 1, 0, 2), BEYOND);
        due("34: j too far", x.move(0, 0, 1, 1, 2), BEYOND);
        due("34: i beyond the row", x.move(0, 6, 1, 0, 0), BEYOND);
        due("34: i + n wraps", x.move(0, MOST, 1, 0, MOST), BEYOND);
        due("34: j + n wraps", x.move(0, 0, 1, MOST, 2), BEYOND);
        due("34: n most", x.move(0, 1, 0, 0, MOST), BEYOND);
        isRow("34: another stays", x, 1, 3, 4);
    }

    private static WellTold strengths(int... v) {
        WellTold x = new WellTold();
        for (int one : v) {
            x.call(0, 0, one);
        }
        return x;
    }

    private static void numbers(WellTold x, int sheet, int bits, int... v) {
        x.sheet(sheet, bits, v.length);
        for (int i = 0; i < v.length; i++) {
            x.put(sheet, i, v[i]);
        }
    }

    /** Reads a row by judge(), from SAYINGS that are called for it; an IMAGE brings the others back. */
    private static void isRow(String what, WellTold x, int sheet, int... v) {
        x.image();
        for (int i = 0; i < v.length; i++) {
            if (x.count(2) <= i) {
                x.call(0, 0, 0);
            }
            x.change(i, 1, v[i]);
        }
        due(what, x.judge(sheet), v.length == x.count(2) ? -1 : v.length);
        x.restore();
    }

    private static void p35Palates() {
        WellTold x = new WellTold();
        due("35: sheet 4", x.palates(4), BEYOND);
        due("35: sheet -1", x.palates(-1), BEYOND);
        due("35: missing", x.palates(0), NONE);
        numbers(x, 0, 16, 5, 99, 0, 100, 7);
        due("35: nobody", x.palates(0), 0);
        x.folk(0, 50);
        x.folk(0, 50);
        due("35: two of them", x.palates(0), 2);
        due("35: one 0", x.ofFolk(0, 1), 5);
        due("35: one 1", x.ofFolk(1, 1), 99);
        for (int i = 0; i < 4; i++) {
            x.folk(0, 50);
        }
        due("35: up to 100", x.palates(0), 3);
        due("35: one 2", x.ofFolk(2, 1), 0);
        due("35: one 3 stays", x.ofFolk(3, 1), 50);
        due("35: one 4 stays", x.ofFolk(4, 1), 50);
        numbers(x, 1, 8, 1, -1);
        due("35: up to -1", x.palates(1), 1);
        due("35: one 1 stays", x.ofFolk(1, 1), 99);
        numbers(x, 1, 8, 7);
        due("35: fewer numbers than folk", x.palates(1), 1);
        due("35: one 1 stays again", x.ofFolk(1, 1), 99);
        numbers(x, 1, 8);
        due("35: no numbers", x.palates(1), 0);
        due("35: one 0 stays", x.ofFolk(0, 1), 7);
        due("35: no ERROR", x.told(1), 2);
    }

    private static void p36Judge() {
        WellTold x = strengths(7, 8);
        due("36: sheet 4", x.judge(4), BEYOND);
        due("36: sheet -1", x.judge(-1), BEYOND);
        due("36: missing", x.judge(0), NONE);
        numbers(x, 0, 8, 7, 8);
        due("36: all are", x.judge(0), -1);
        numbers(x, 0, 8, 7);
        due("36: one lacks", x.judge(0), 1);
        numbers(x, 0, 8, 7, 8, 0);
        due("36: one is too many", x.judge(0), 2);
        numbers(x, 0, 8, 7, 8, 9);
        numbers(x, 0, 8, 7, 8);
        due("36: the third is gone", x.judge(0), -1);
        numbers(x, 0, 8, 7, 9, 0);
        due("36: 9 isn't so", x.judge(0), 1);
        numbers(x, 0, 8, 6, 9);
        due("36: 6 isn't so", x.judge(0), 0);
        numbers(x, 0, 8);
        due("36: both lack", x.judge(0), 0);
        WellTold y = new WellTold();
        y.sheet(0, 8, 0);
        due("36: none and none", y.judge(0), -1);
    }

    private static WellTold fullWorld() {
        WellTold x = new WellTold();
        x.wells(5);
        x.way(0, 4, 3);
        x.way(0, 1, 1);
        x.stop(1, 1);
        x.folk(4, 2);
        x.call(3, 0, 60);
        x.call(30, 4, 60);
        x.hours(2);
        x.rain(6);
        x.seed(77);
        Checks.text(x, 0, "3");
        Checks.text(x, 1, "h<99");
        Checks.feed(x, "s+");
        x.tell(5);
        return x;
    }

    private static int[] seen(WellTold x) {
        int[] s = new int[40];
        int n = 0;
        for (int what = 0; what <= 12; what++) {
            s[n++] = what == 11 ? 0 : x.count(what);
        }
        for (int saying = 0; saying < 2; saying++) {
            for (int what = 0; what < 8; what++) {
                s[n++] = x.ofSaying(saying, what);
            }
        }
        for (int what = 0; what < 4; what++) {
            s[n++] = x.ofWay(0, what);
        }
        for (int what = 0; what < 3; what++) {
            s[n++] = x.ofFolk(0, what);
        }
        s[n++] = x.law(0, 5, 5, 5);
        s[n++] = x.law(1, 5, 5, 98);
        s[n++] = x.law(1, 5, 5, 99);
        return s;
    }

    private static void p37Image() {
        WellTold x = fullWorld();
        int[] before = seen(x);
        due("37: image()", x.image(), 1);
        int[] after = seen(x);
        for (int i = 0; i < before.length; i++) {
            due("37: image() changes nothing, " + i, after[i], before[i]);
        }
        x.hours(1);
        due("37: in place of the one ahead", x.image(), 2);
        due("37: HOUR of the second", x.restore(), 3);
        due("37: how often it was done isn't kept", x.image(), 3);
    }

    private static void p38Restore() {
        WellTold x = fullWorld();
        due("38: none", x.restore(), NONE);
        x.sheet(0, 8, 1);
        x.put(0, 0, 3);
        x.image();
        int[] before = seen(x);
        for (int again = 0; again < 2; again++) {
            mixUp(x);
            due("38: HOUR", x.restore(), 2);
            int[] after = seen(x);
            for (int i = 0; i < before.length; i++) {
                due("38: all is as it was, " + i, after[i], before[i]);
            }
        }
        due("38: sheets stay as they are", x.put(0, 1, 0), 1);
        due("38: the trace stays", x.count(11), 4);
        due("38: what is told stays", x.told(1), 2);
        due("38: NONE is told still", x.told(2), 1);
        due("38: the number that waits", x.tell(9), 2);
        due("38: the tape", x.feed('m', 1), 3);
        due("38: is s+m", x.text(0), 1);
        due("38: gives s+m", x.law(0, 3, 4, 9), 7);
    }

    private static void p38RestoreOfLess() {
        WellTold x = new WellTold();
        x.image();
        x.wells(6);
        x.way(5, 4, 3);
        x.way(4, 5, 2);
        x.stop(0, 1);
        x.call(25, 5, 9);
        x.folk(5, 9);
        x.tell(1);
        Checks.text(x, 0, "7");
        Checks.text(x, 1, "0");
        Checks.feed(x, "12");
        due("38: HOUR 0", x.restore(), 0);
        int[] first = {4, 0, 0, 0, 0, 0, 0, 0, 0, 0, 0, 0, 1};
        for (int i = 0; i < first.length; i++) {
            due("38: as at first, count(" + i + ")", x.count(i), first[i]);
        }
        due("38: no text of WEAKENS", x.law(0, 0, 0, 0), 1);
        due("38: no text of TASTES", x.law(1, 0, 0, 0), 1);
        due("38: a way anew", x.way(1, 2, 8), 0);
        int[] way = {1, 2, 8, 0};
        for (int what = 0; what < way.length; what++) {
            due("38: ofWay(0, " + what + ")", x.ofWay(0, what), way[what]);
        }
        due("38: a saying anew", x.call(34, 3, 33), 0);
        int[] saying = {3, 4, 3, 33, 0, 0, -1, 0};
        for (int what = 0; what < saying.length; what++) {
            due("38: ofSaying(0, " + what + ")", x.ofSaying(0, what), saying[what]);
        }
        due("38: one anew", x.folk(2, 1), 0);
        due("38: one's well", x.ofFolk(0, 0), 2);
        due("38: one's palate", x.ofFolk(0, 1), 1);
    }

    private static void mixUp(WellTold x) {
        x.loose(3);
        x.feed('1', 1);
        x.text(0);
        Checks.text(x, 1, "0");
        Checks.feed(x, "12345");
        x.rain(1);
        x.stop(0, 1);
        x.way(1, 2, 1);
        x.call(69, 3, 3);
        x.become(0, 55);
        x.change(1, 0, 0);
        x.change(1, 1, 9);
        x.drink(0, 0, 0);
        x.drink(0, 1, 9);
        x.drink(0, 2, 7);
        x.folk(0, 0);
        x.tell(8);
        x.voice(0, 3, 9);
        x.become(0, 0);
        x.voice(0, 3, 9);
        x.rain(10);
        x.sheet(0, 8, 2);
    }

    private static void p39Tell() {
        WellTold x = new WellTold();
        for (int i = 1; i <= 20; i++) {
            due("39: number " + i, x.tell(LEAST), i);
        }
        due("39: FULL", x.tell(0), FULL);
        due("39: count(10)", x.count(10), 20);
        x.check();
        due("39: the first again", x.tell(MOST), 1);
    }

    private static void p40Check() {
        WellTold x = strengths(30, 2, 0);
        due("40: none waits", x.check(), 0);
        // Each is less by 1 an HOUR, down to 0: 29 + 1, 28 + 0, 27 + 0.
        tells(x, 30, 28, 27);
        due("40: all are so", x.check(), 0);
        due("40: none waits then", x.count(10), 0);
        tells(x, 30, 28, 26, 1);
        due("40: the third isn't", x.check(), 3);
        due("40: none waits then, too", x.count(10), 0);
        tells(x, 32);
        due("40: the first isn't", x.check(), 1);
        due("40: strengths stay", x.count(7), 32);
        for (int i = 1; i <= 20; i++) {
            x.tell(Math.max(0, 30 - i) + Math.max(0, 2 - i) + (i == 20 ? 1 : 0));
        }
        due("40: the last isn't", x.check(), 20);
        WellTold y = new WellTold();
        tells(y, 0, 0);
        due("40: no sayings", y.check(), 0);
        tells(y, -1);
        due("40: -1", y.check(), 1);
    }

    private static void tells(WellTold x, int... v) {
        for (int one : v) {
            x.tell(one);
        }
    }

    private static void p41Count() {
        WellTold x = fullWorld();
        x.voice(0, 1, 0);
        // Saying 0 has gone and weakened for 2 HOURS, saying 1 is a NAME, known to one 0.
        int[] due = {5, 2, 2, 1, 2, 6, 2, 58 + 60, 1, 2, 1, 2, 77};
        for (int what = 0; what < due.length; what++) {
            due("41: count(" + what + ")", x.count(what), due[what]);
        }
        due("41: count(13)", x.count(13), BEYOND);
        due("41: count(-1)", x.count(-1), BEYOND);
        x.seed(FULL);
        due("41: any z", x.count(12), FULL);
        due("41: is no ERROR", x.told(4), 0);
    }

    private static void p42Told() {
        WellTold x = new WellTold();
        x.wells(0);
        x.rain(99);
        x.count(99);
        x.restore();
        x.trace(0);
        x.hours(1);
        x.call(0, 0, 0);
        x.wells(3);
        for (int i = 0; i < 21; i++) {
            x.tell(0);
        }
        x.as(0, 4);
        due("42: BEYOND", x.told(1), 3);
        due("42: NONE", x.told(2), 2);
        due("42: STATE", x.told(3), 1);
        due("42: FULL", x.told(4), 1);
        due("42: KIND", x.told(5), 1);
        due("42: k 0", x.told(0), BEYOND);
        due("42: k 6", x.told(6), BEYOND);
        due("42: k least", x.told(LEAST), BEYOND);
        due("42: they are counted, too", x.told(1), 6);
    }
}
