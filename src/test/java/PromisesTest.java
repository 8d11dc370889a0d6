/** Each promise by answers that were reckoned by hand. */
public final class PromisesTest {
    private static final Check CHECK = new Check();
    private static final int NONE = ShortcutDuty.NONE;

    private static final String LAND = Check.LAND;
    private static final String SMALL = Check.SMALL;

    private static void due(String call, long got, long want) {
        CHECK.due(call, got, want);
    }

    public static void main(String[] args) {
        newObject();
        tape();
        kingdomAndFault();
        roadAndWay();
        openAndJoins();
        toldWalks();
        lawfulness();
        savedAndDuty();
        owesAndTakings();
        chanceAndHope();
        shortestHiddenWays();
        bestAndGoes();
        bestTies();
        all();
        lane();
        help();
        bendAndDuke();
        watchers();
        byRateLaw();
        paidAndSure();
        ford();
        must();
        seenAndCaught();
        count();
        images();
        rows();
        paste();
        CHECK.close("PromisesTest");
    }

    private static void newObject() {
        ShortcutDuty x = new ShortcutDuty();
        for (int what = 0; what <= 8; what++) {
            due("1: count(" + what + ")", x.count(what), 0);
        }
        due("1: NONE", ShortcutDuty.NONE, -1);
        due("1: unlawful", x.unlawful(), -2);
        due("1: takings", x.takings(NONE), -2);
        due("1: road(0, 0)", x.road(0, 0), -2);
        due("1: law", x.law(0, 0), -2);
        due("1: lane", x.lane(0, 1, 1, 0), -2000000);
        due("1: bend", x.bend(0, 1, 0), -2000000);
        due("1: back", x.back(0), -6);
    }

    private static void tape() {
        ShortcutDuty x = new ShortcutDuty();
        due("2: feed", x.feed(0x6b696e67, 0x646f6d20, 0x706c6163, 0x65732034, 0x20646179), 20);
        for (int i = 2; i <= 100; i++) {
            due("2: feed " + i, x.feed(0, -1, 0x01020304, 0, 0), 20 * i);
        }
        due("2: feed beyond 2,000", x.feed(0, 0, 0, 0, 0), NONE);
        due("2: and none come", x.count(7), 2000);
        due("3: end beyond", x.end(2001), NONE);
        due("3: end below 0", x.end(-1), NONE);
        due("3: nothing happens", x.count(7), 2000);
        due("3: end", x.end(1981), 1981);
        due("2: feed of too many", x.feed(0, 0, 0, 0, 0), NONE);
        due("3: end", x.end(1980), 1980);
        due("2: feed to the last", x.feed(0, 0, 0, 0, 0), 2000);
        due("3: end(16)", x.end(16), 16);
        due("3: kingdom places 4, and its end", x.kingdom(), -4);
        due("3: the end's place", x.fault(1), 16);
        due("3: end(0)", x.end(0), 0);
        due("3: end(1) of an empty one", x.end(1), NONE);
    }

    private static void kingdomAndFault() {
        ShortcutDuty x = new ShortcutDuty();
        due("5: ahead of any, what 0", x.fault(0), 0);
        due("5: ahead of any, what 1", x.fault(1), NONE);
        due("4: kingdom", Check.tell(x, LAND), 12);
        due("4: the tape is empty", x.count(7), 0);
        due("5: without, what 0", x.fault(0), 0);
        due("5: without, what 1", x.fault(1), NONE);
        due("4: a fault", Check.tell(x, Check.HEAD + "road 0 to 9 1;"), -4);
        due("5: its code", x.fault(0), 2);
        due("5: its place", x.fault(1), 55);
        due("5: another what", x.fault(2), NONE);
        due("5: another what", x.fault(-1), NONE);
        due("4: the kingdom stays", x.count(6), 12);
        due("4: and its duties", x.takings(NONE), 24);
        due("4: the next text is read alone", Check.tell(x, SMALL), 5);
        due("4: in place of another", x.count(0), 3);
        due("4: and its walks", x.count(4), 1);
        due("5: of the latest", x.fault(0), 0);
        due("5: of the latest", x.fault(1), NONE);
        due("4: blanks alone", Check.tell(x, " \n \n"), 0);
        due("4: there is none then", x.unlawful(), -2);
        due("4: there is none then", x.count(0), 0);
        due("4: no blanks needed", Check.tell(x, "kingdom places2days1rate0free0time0;road0to1 1;"), 2);
        due("4: more blanks", Check.tell(x, "\n kingdom  places 02 days\n1 rate 0 free 0 time 0 ; \n"), 1);
    }

    private static void roadAndWay() {
        ShortcutDuty x = Check.told(LAND);
        due("6: road(0, 3)", x.road(0, 3), 15);
        due("6: road(3, 1)", x.road(3, 1), 10);
        due("6: to itself", x.road(2, 2), 0);
        due("6: no such place", x.road(0, 4), -2);
        due("6: no such place", x.road(-1, 0), -2);
        for (int i = 0; i < 4; i++) {
            due("7: way(0, 3, i)", x.way(0, 3, i), i);
        }
        due("7: beyond", x.way(0, 3, 4), NONE);
        due("7: below 0", x.way(0, 3, -1), NONE);
        due("7: to itself", x.way(2, 2, 0), 2);
        due("7: to itself, beyond", x.way(2, 2, 1), NONE);
        due("7: no such place", x.way(4, 0, 0), -2);
        ShortcutDuty y = Check.told("kingdom places 5 days 1 rate 0 free 0 time 0;"
                + "road 0 to 3 4; road 0 to 2 1; road 2 to 3 3; road 1 to 3 2; road 1 to 0 2; boat 3 to 4 1;");
        due("6: of several", y.road(0, 3), 4);
        due("7: the least row", y.way(0, 3, 1), 1);
        due("7: the least row", y.way(0, 3, 2), 3);
        due("7: back", y.way(3, 0, 1), 0);
        due("6: no way by road", y.road(0, 4), NONE);
        due("7: no way by road", y.way(0, 4, 0), NONE);
    }

    private static void openAndJoins() {
        ShortcutDuty x = Check.told(LAND);
        due("8: a lane on its last day", x.open(0, 5), 1);
        due("8: a lane behind it", x.open(0, 6), 0);
        due("8: a ford on a flood", x.open(1, 2), 0);
        due("8: a ford", x.open(1, 3), 1);
        due("8: a boat", x.open(2, 2), 1);
        due("8: no such lane", x.open(3, 0), -2);
        due("8: no such lane", x.open(-1, 0), -2);
        due("8: no such day", x.open(0, 7), -2);
        due("8: no such day", x.open(0, -1), -2);
        due("9: a lane", x.joins(0, 2, 0), 20);
        due("9: the other way round", x.joins(2, 0, 0), 20);
        due("9: nothing", x.joins(0, 2, 6), NONE);
        due("9: a road", x.joins(0, 1, 0), 0);
        due("9: a road", x.joins(3, 2, 0), 2);
        due("9: a ford", x.joins(1, 3, 0), 21);
        due("9: a ford on a flood", x.joins(1, 3, 2), NONE);
        due("9: a boat", x.joins(0, 3, 0), 22);
        due("9: one twice", x.joins(1, 1, 0), -2);
        due("9: no such place", x.joins(1, 4, 0), -2);
        due("9: no such day", x.joins(1, 2, 7), -2);
        ShortcutDuty y = Check.told("kingdom places 3 days 3 rate 0 free 0 time 0; road 0 to 1 5;"
                + "lane 0 to 1 5 from 0 to 2; boat 0 to 1 4; lane 1 to 0 3 from 1 to 1; ford 0 to 2 7; boat 2 to 0 7;"
                + "flood on 2;");
        due("9: the shortest", y.joins(0, 1, 0), 21);
        due("9: the shortest that is open", y.joins(0, 1, 1), 22);
        due("9: the least lane of several", y.joins(0, 2, 0), 23);
        due("9: the least that is open", y.joins(0, 2, 2), 24);
        due("8: a lane ahead of its first day", y.open(2, 0), 0);
        ShortcutDuty z = Check.told("kingdom places 2 days 1 rate 0 free 0 time 0; boat 0 to 1 5; road 1 to 0 5;");
        due("9: the road of several", z.joins(0, 1, 0), 0);
    }

    private static void toldWalks() {
        ShortcutDuty x = Check.told(LAND);
        int[] second = {1, 3, 2, 0, 3, 2};
        for (int what = 0; what < 6; what++) {
            due("10: walk(1, " + what + ")", x.walk(1, what), second[what]);
        }
        due("10: one step", x.walk(2, 5), 1);
        due("10: no such what", x.walk(1, 6), -2);
        due("10: no such what", x.walk(1, -1), -2);
        due("10: no such walk", x.walk(4, 0), -2);
        due("10: no such walk", x.walk(-1, 0), -2);
    }

    private static void lawfulness() {
        ShortcutDuty x = Check.told(LAND);
        due("11: unlawful", x.unlawful(), 1);
        due("11: all are", Check.told(SMALL).unlawful(), NONE);
        due("11: no walks", Check.told(Check.HEAD).unlawful(), NONE);
        due("12: steps of a lawful one", x.steps(0), 2);
        due("12: steps ahead of the first that is not", x.steps(1), 1);
        due("12: no such walk", x.steps(4), -2);
        due("13: length", x.length(0), 9);
        due("13: length with a ford", x.length(3), 11);
        due("13: not lawful", x.length(1), NONE);
        due("13: no such walk", x.length(-1), -2);
        due("16: lanes", x.lanes(0), 1);
        due("16: lanes", x.lanes(2), 4);
        due("16: lanes", x.lanes(3), 2);
        due("16: not lawful", x.lanes(1), NONE);
        due("16: no such walk", x.lanes(10), -2);
        ShortcutDuty y = Check.told(Check.HEAD + "lane 0 to 1 2 from 0 to 6; walk 0 load 1 on 0 from 0 by 2 1;"
                + "walk 0 load 1 on 0 from 0 by 1 0 1 0 1 0; road 2 to 3 1; walk 0 load 1 on 0 from 2 by 3;");
        due("12: none is lawful", y.steps(0), 0);
        due("11: the first of all", y.unlawful(), 0);
        due("10: six steps, where to", y.walk(1, 4), 0);
        due("10: six steps", y.walk(1, 5), 6);
        due("13: a lane more than once", y.length(1), 12);
        due("16: a lane more than once", y.lanes(1), 1);
        due("16: roads alone", y.lanes(2), 0);
    }

    private static void savedAndDuty() {
        ShortcutDuty x = Check.told(LAND);
        due("14: saved", x.saved(0), 6);
        due("14: saved", x.saved(3), 4);
        due("14: saved by boat", x.saved(2), 6);
        due("14: not lawful", x.saved(1), NONE);
        due("14: no such walk", x.saved(4), -2);
        due("15: duty", x.duty(0), 15);
        due("15: duty on a Sunday", x.duty(3), 9);
        due("15: a boat", x.duty(2), 0);
        due("15: not lawful", x.duty(1), NONE);
        due("15: no such walk", x.duty(-1), -2);
        String more = "kingdom places 4 days 30 rate 2 free 3 time 0; road 0 to 1 9; lane 0 to 1 6 from 0 to 29;"
                + "lane 1 to 2 1 from 0 to 29; road 1 to 3 1; law load;"
                + "walk 0 load 9 on 0 from 0 by 1; walk 0 load 9 on 0 from 1 by 2; walk 0 load 9 on 0 from 0 by 1 0;";
        ShortcutDuty y = Check.told(more);
        due("14: no more than free", y.saved(0), 3);
        due("15: no more than free", y.duty(0), 0);
        due("14: no way by road", y.saved(1), 0);
        due("15: no way by road", y.duty(1), 0);
        due("14: back to where it began", y.saved(2), 0);
        ShortcutDuty z = Check.told(more + "law free; law sunday; law light; law load; law free;"
                + "road 2 to 3 30; walk 1 load 5 on 13 from 1 by 2; walk 1 load 5 on 12 from 1 by 2;"
                + "walk 1 load 5 on 6 from 1 by 2; walk 1 load 5 on 20 from 1 by 2; walk 1 load 5 on 27 from 1 by 2;"
                + "walk 1 load 5 on 7 from 1 by 2;");
        due("14: by two roads", z.saved(3), 30);
        due("15: Sunday 13 is free", z.duty(3), 0);
        due("15: 12 is none, loads count", z.duty(4), 270);
        due("15: Sunday 6 is free", z.duty(5), 0);
        due("15: Sunday 20 is free", z.duty(6), 0);
        due("15: Sunday 27 is free", z.duty(7), 0);
        due("15: 7 is none", z.duty(8), 270);
        ShortcutDuty w = Check.told(LAND + "law load; law light;");
        due("15: a later law strikes", w.duty(0), 15);
        ShortcutDuty v = Check.told("kingdom places 3 days 7 rate 1 free 0 time 0; law free; law sunday;"
                + "boat 1 to 2 1; road 0 to 1 3; road 2 to 0 3; ford 0 to 1 2; flood on 0;"
                + "walk 0 load 1 on 6 from 1 by 2; walk 0 load 1 on 6 from 1 by 0; walk 0 load 1 on 0 from 1 by 0;");
        due("14: by road over place 0", v.saved(0), 5);
        due("15: the first lane is a boat", v.duty(0), 0);
        due("15: a duty of 1 on a Sunday that is due", v.duty(1), 1);
        due("15: a flood on the first day", v.duty(2), 0);
        due("34: Sundays are due", v.law(3, 1), 1);
    }

    private static void owesAndTakings() {
        ShortcutDuty x = Check.told(LAND);
        due("17: owes", x.owes(0), 24);
        due("17: nothing lawful", x.owes(1), 0);
        due("17: no walks", x.owes(4), 0);
        due("17: no such walker", x.owes(5), -2);
        due("17: no such walker", x.owes(-1), -2);
        due("18: takings on all", x.takings(NONE), 24);
        due("18: takings", x.takings(0), 15);
        due("18: takings", x.takings(2), 0);
        due("18: takings", x.takings(6), 9);
        due("18: no such day", x.takings(7), -2);
        due("18: no such day", x.takings(-2), -2);
    }

    private static void chanceAndHope() {
        ShortcutDuty x = Check.told(LAND);
        due("19: above", x.chance(0, 0), 1);
        due("19: below", x.chance(0, 1), 2);
        due("20: above", x.hope(0, 0), 15);
        due("20: below", x.hope(0, 1), 2);
        due("19: a fifth", x.chance(3, 1), 5);
        due("20: nine fifths", x.hope(3, 0), 9);
        due("19: none watched, above", x.chance(2, 0), 0);
        due("19: none watched, below", x.chance(2, 1), 1);
        due("20: no duty, above", x.hope(2, 0), 0);
        due("20: no duty, below", x.hope(2, 1), 1);
        due("19: not lawful", x.chance(1, 0), NONE);
        due("20: not lawful", x.hope(1, 1), NONE);
        due("19: no such what", x.chance(0, 2), -2);
        due("20: no such what", x.hope(0, -1), -2);
        due("20: no such what", x.hope(0, 2), -2);
        due("19: no such what, not lawful", x.chance(1, 2), -2);
        due("19: no such walk", x.chance(4, 0), -2);
        due("20: no such walk", x.hope(-1, 0), -2);
        ShortcutDuty y = Check.told("kingdom places 2 days 1 rate 99 free 0 time 0; ford 0 to 1 1 watched 97;"
                + "road 0 to 1 30; ford 0 to 1 2 watched 100; walk 0 load 1 on 0 from 0 by 1 0 1 0 1;"
                + "walk 0 load 1 on 0 from 0 by 1 0 1 0 1 0;");
        due("19: five steps", y.chance(0, 0), 9999999757L);
        due("19: five steps", y.chance(0, 1), 10000000000L);
        due("20: 99 times 25 of them", y.hope(0, 0), 99L * 9999999757L);
        due("20: 99 times 25 of them", y.hope(0, 1), 400000000L);
        due("19: six steps", y.chance(1, 0), 999999999271L);
        due("19: six steps", y.chance(1, 1), 1000000000000L);
        ShortcutDuty z = Check.told(Check.HEAD + "ford 0 to 1 2 watched 100; walk 0 load 1 on 0 from 0 by 1;"
                + "lane 0 to 2 1 from 0 to 6 watched 0; walk 0 load 1 on 0 from 0 by 2;");
        due("19: sure to be seen", z.chance(0, 0), 1);
        due("19: sure to be seen", z.chance(0, 1), 1);
        due("19: watched 0", z.chance(1, 0), 0);
        ShortcutDuty w = Check.told(Check.HEAD + "ford 0 to 1 2 watched 1; ford 1 to 2 2 watched 50;"
                + "walk 0 load 1 on 0 from 0 by 1 2;");
        due("19: 1 and 50 of a hundred", w.chance(0, 0), 101);
        due("19: 1 and 50 of a hundred", w.chance(0, 1), 200);
    }

    private static void shortestHiddenWays() {
        ShortcutDuty x = Check.told(LAND);
        due("21: shortest", x.shortest(0, 3, 0), 9);
        due("21: shortest", x.shortest(0, 2, 0), 4);
        due("21: shortest without the lane", x.shortest(0, 2, 6), 10);
        due("22: hidden", x.hidden(0, 3, 0), 9);
        due("22: hidden", x.hidden(0, 2, 0), 10);
        due("22: hidden", x.hidden(1, 3, 0), 10);
        due("25: ways", x.ways(0, 3, 0), 5);
        due("25: ways on a flood", x.ways(0, 3, 2), 3);
        due("21: one twice", x.shortest(0, 0, 0), -2);
        due("22: one twice", x.hidden(0, 0, 0), -2);
        due("25: one twice", x.ways(0, 0, 0), -2);
        due("21: no such place", x.shortest(0, 4, 0), -2);
        due("22: no such day", x.hidden(0, 3, 7), -2);
        due("25: no such day", x.ways(0, 3, -1), -2);
        ShortcutDuty y = Check.told(Check.HEAD + "ford 0 to 1 2 watched 1; ford 1 to 2 2 watched 0; road 0 to 1 9;");
        due("21: none", y.shortest(0, 3, 0), NONE);
        due("22: one goes by the watched one", y.hidden(0, 1, 0), NONE);
        due("22: watched 0 is not watched", y.hidden(1, 2, 0), 2);
        due("22: none", y.hidden(0, 3, 0), NONE);
        due("25: none", y.ways(0, 3, 0), 0);
        StringBuilder full = new StringBuilder("kingdom places 7 days 1 rate 1 free 0 time 1;");
        int told = 0;
        for (int a = 0; a < 7; a++) {
            for (int b = a + 1; b < 7 && told < 20; b++) {
                full.append(told < 12 ? "road " : "boat ").append(a + " to " + b + " 1;");
                told++;
            }
        }
        ShortcutDuty z = Check.told(full + "walk 0 load 1 on 0 from 0 by 6;");
        due("25: all rows but those over 5-6", z.ways(0, 6, 0), 261);
        due("25: all rows but those over 5-6", z.ways(0, 1, 0), 228);
        due("38: the last pair too", z.must(5, 6, 0, 0), 1);
    }

    private static void bestAndGoes() {
        ShortcutDuty x = Check.told(LAND);
        int[] byBoat = {9, 9, 0, 2};
        int[] byRoad = {10, 10, 0, 3};
        for (int what = 0; what < 4; what++) {
            due("23: best(0, 3) " + what, x.best(0, 3, 0, 1, what), byBoat[what]);
            due("23: best(0, 2) " + what, x.best(0, 2, 0, 2, what), byRoad[what]);
        }
        due("24: goes", x.goes(0, 3, 0, 1, 0), 0);
        due("24: goes", x.goes(0, 3, 0, 1, 1), 3);
        due("24: not so many", x.goes(0, 3, 0, 1, 2), NONE);
        due("24: below 0", x.goes(0, 3, 0, 1, -1), NONE);
        due("24: goes", x.goes(0, 2, 0, 2, 1), 1);
        due("23: no such what", x.best(0, 3, 0, 1, 4), -2);
        due("23: no such what", x.best(0, 3, 0, 1, -1), -2);
        due("23: no such load", x.best(0, 3, 0, 0, 0), -2);
        due("23: no such load", x.best(0, 3, 0, 10, 0), -2);
        due("23: one twice", x.best(3, 3, 0, 1, 0), -2);
        due("23: no such day", x.best(0, 3, 7, 1, 0), -2);
        due("24: no such load", x.goes(0, 3, 0, 10, 0), -2);
        due("24: one twice", x.goes(3, 3, 0, 1, 0), -2);
        due("24: no such place", x.goes(0, 4, 0, 1, 0), -2);
        ShortcutDuty y = Check.told(Check.HEAD + "road 0 to 1 1;");
        due("23: none", y.best(0, 2, 0, 1, 0), NONE);
        due("24: none", y.goes(0, 2, 0, 1, 0), NONE);
    }

    private static void bestTies() {
        ShortcutDuty x = Check.told(SMALL);
        due("23: cost and duty", x.best(0, 2, 0, 1, 0), 14);
        due("23: cost and duty", x.best(0, 2, 0, 1, 2), 6);
        x.law(2, 1);
        due("23: as cheap", x.best(0, 2, 0, 1, 0), 10);
        due("23: then the shortest", x.best(0, 2, 0, 1, 1), 4);
        due("24: then the shortest", x.goes(0, 2, 0, 1, 1), 2);
        x.law(2, 0);
        due("23: no time", x.best(0, 2, 0, 1, 3), 3);
        x.law(4, 1);
        x.law(2, 2);
        due("23: a light load", x.best(0, 2, 0, 1, 3), 2);
        due("23: a heavy load", x.best(0, 2, 0, 3, 3), 3);
        ShortcutDuty y = Check.told("kingdom places 4 days 1 rate 0 free 0 time 1;"
                + "road 0 to 2 2; road 2 to 3 2; road 0 to 1 3; road 1 to 3 1; road 0 to 3 4;");
        due("24: then the least row", y.goes(0, 3, 0, 1, 1), 1);
        due("24: then the least row", y.goes(3, 0, 0, 1, 1), 0);
    }

    private static void all() {
        ShortcutDuty x = Check.told(LAND);
        int[] sums = {0, 36, 36, 0};
        for (int what = 0; what < 4; what++) {
            due("26: all(" + what + ")", x.all(what), sums[what]);
        }
        due("26: no such what", x.all(4), -2);
        due("26: no such what", x.all(-1), -2);
        ShortcutDuty y = Check.told(SMALL);
        due("26: duty", y.all(0), 6);
        due("26: costs", y.all(1), 14);
        due("26: lengths", y.all(2), 4);
        ShortcutDuty z = Check.told(Check.HEAD + "road 0 to 1 4; walk 0 load 1 on 0 from 0 by 1;"
                + "walk 0 load 1 on 0 from 0 by 2; walk 0 load 1 on 0 from 0 by 2 3 0;");
        due("26: those alone that have a way", z.all(1), 4);
        due("26: those alone that have a way", z.all(2), 4);
        due("26: how many have none", z.all(3), 1);
    }

    private static void lane() {
        ShortcutDuty x = Check.told(LAND);
        due("27: as long as needless", x.lane(0, 2, 9, 1), 0);
        due("27: in place of the boat, costs", x.lane(0, 3, 1, 1), 24);
        due("27: in place of the boat, lengths", x.lane(3, 0, 1, 2), 24);
        due("27: in place of the boat, duty", x.lane(0, 3, 1, 0), 0);
        due("27: as long as the boat", x.lane(0, 3, 9, 1), 0);
        due("27: in thought", x.count(3), 3);
        due("27: in thought", x.all(1), 36);
        due("27: one twice", x.lane(1, 1, 1, 0), -2000000);
        due("27: no such place", x.lane(0, 4, 1, 0), -2000000);
        due("27: no such length", x.lane(0, 1, 0, 0), -2000000);
        due("27: no such length", x.lane(0, 1, 100, 0), -2000000);
        due("27: no such what", x.lane(0, 1, 1, 4), -2000000);
        ShortcutDuty y = Check.told(Check.HEAD + "walk 0 load 1 on 6 from 0 by 1;");
        due("27: one that had no way", y.lane(0, 1, 99, 3), -1);
        due("27: one that had no way", y.lane(0, 1, 99, 1), 99);
        StringBuilder eight = new StringBuilder(Check.HEAD);
        for (int i = 0; i < 8; i++) {
            eight.append("boat 0 to 1 20;");
        }
        ShortcutDuty z = Check.told(eight + "walk 0 load 1 on 0 from 0 by 1;");
        due("27: a ninth", z.lane(0, 1, 19, 2), -1);
        due("38: a ninth", z.must(0, 1, 0, 0), 1);
    }

    private static void help() {
        ShortcutDuty x = Check.told("kingdom places 3 days 1 rate 0 free 0 time 1; road 0 to 1 10; road 1 to 2 10;"
                + "walk 0 load 1 on 0 from 2 by 1 0;");
        due("28: help(5)", x.help(5), 2);
        due("28: help(19)", x.help(19), 2);
        due("28: not less", x.help(20), NONE);
        due("28: no such n", x.help(0), -2);
        due("28: no such n", x.help(100), -2);
        ShortcutDuty y = Check.told("kingdom places 3 days 1 rate 0 free 0 time 1; road 0 to 1 10; road 1 to 2 10;"
                + "walk 0 load 1 on 0 from 0 by 1; walk 0 load 1 on 0 from 1 by 2;");
        due("28: the first of several", y.help(5), 1);
        ShortcutDuty z = Check.told("kingdom places 7 days 1 rate 0 free 0 time 1; road 5 to 6 10;"
                + "walk 0 load 1 on 0 from 6 by 5;");
        due("28: the lesser first", z.help(9), 56);
        due("28: duty counts", Check.told(LAND).help(8), NONE);
        due("28: no walks", Check.told(Check.HEAD).help(1), NONE);
    }

    private static void bendAndDuke() {
        ShortcutDuty x = Check.told(SMALL);
        due("29: duty", x.bend(0, 3, 0), 3);
        due("29: costs", x.bend(0, 3, 1), 3);
        due("29: lengths", x.bend(0, 3, 2), 0);
        due("29: without a way", x.bend(0, 3, 3), 0);
        due("29: most", x.bend(1, 99, 0), 99);
        due("29: in thought", x.road(0, 2), 10);
        due("29: no such road", x.bend(2, 3, 0), -2000000);
        due("29: no such road", x.bend(-1, 3, 0), -2000000);
        due("29: no such n", x.bend(0, 0, 0), -2000000);
        due("29: no such n", x.bend(0, 100, 0), -2000000);
        due("29: no such what", x.bend(0, 1, 4), -2000000);
        due("30: the first of several", x.duke(5), 0);
        due("30: no such n", x.duke(0), -2);
        due("30: no such n", x.duke(100), -2);
        due("30: none", Check.told(LAND).duke(5), NONE);
        due("30: no roads", Check.told(Check.HEAD).duke(5), NONE);
        ShortcutDuty y = Check.told(SMALL + "walk 1 load 1 on 0 from 1 by 2; lane 1 to 2 1 from 0 to 0;");
        due("30: the most", y.duke(5), 1);
    }

    private static void watchers() {
        ShortcutDuty x = Check.told(LAND);
        due("31: how many", x.watchers(0), 2);
        due("31: which", x.watchers(1), 3);
        due("31: no such what", x.watchers(2), -2);
        due("31: no such what", x.watchers(-1), -2);
        x.law(0, 0);
        due("31: none owe, how many", x.watchers(0), NONE);
        due("31: none owe, which", x.watchers(1), NONE);
        String land = "kingdom places 5 days 1 rate 1 free 0 time 0; road 0 to 1 9; road 1 to 2 9; road 2 to 3 9;"
                + "ford 0 to 1 2; ford 1 to 2 2; ford 2 to 3 2; walk 0 load 1 on 0 from 0 by 1 2;";
        ShortcutDuty y = Check.told(land);
        due("31: the least set of one", y.watchers(1), 1);
        ShortcutDuty z = Check.told(land + "walk 0 load 1 on 0 from 1 by 2 3;");
        due("31: one on both", z.watchers(0), 1);
        due("31: one on both", z.watchers(1), 2);
        due("31: no walks", Check.told(Check.HEAD).watchers(0), NONE);
        StringBuilder eight = new StringBuilder("kingdom places 2 days 8 rate 1 free 0 time 0; road 0 to 1 2;");
        for (int i = 0; i < 8; i++) {
            eight.append("lane 0 to 1 1 from " + i + " to " + i + "; walk 0 load 1 on " + i + " from 0 by 1;");
        }
        ShortcutDuty w = Check.told(eight.toString());
        due("31: all eight, a duty of 1 each", w.watchers(0), 8);
        due("31: all eight, a duty of 1 each", w.watchers(1), 255);
    }

    private static void byRateLaw() {
        ShortcutDuty x = Check.told(LAND);
        due("32: by(1, 0)", x.by(1, 0), 10);
        due("32: by(0, 0)", x.by(0, 0), 0);
        due("32: by(99, 5)", x.by(99, 5), 99);
        due("32: by(3, 1)", x.by(3, 1), 24);
        due("32: in thought", x.takings(NONE), 24);
        due("32: no such rate", x.by(100, 0), -2);
        due("32: no such rate", x.by(-1, 0), -2);
        due("32: no such free", x.by(0, 100), -2);
        due("32: no such free", x.by(0, -1), -2);
        due("33: rate(1)", x.rate(1), 1);
        due("33: rate(24)", x.rate(24), 3);
        due("33: rate(25)", x.rate(25), 4);
        due("33: rate(792)", x.rate(792), 99);
        due("33: by none", x.rate(793), NONE);
        due("33: by none", x.rate(999999), NONE);
        due("33: no such n", x.rate(0), -2);
        due("33: no such n", x.rate(1000000), -2);
        due("34: loads", x.law(4, 1), 0);
        due("34: loads count", x.duty(0), 30);
        due("34: Sundays", x.law(3, 0), 1);
        due("34: Sundays are free", x.duty(3), 0);
        due("34: rate", x.law(0, 99), 3);
        due("34: free", x.law(1, 5), 1);
        due("34: both", x.duty(0), 198);
        due("34: time", x.law(2, 7), 1);
        due("34: time", x.best(0, 3, 0, 1, 0), 63);
        due("34: what it was", x.law(2, 0), 7);
        due("34: what it was", x.law(3, 1), 0);
        due("34: what it was", x.law(4, 0), 1);
        due("34: no such n", x.law(0, 100), -2);
        due("34: no such n", x.law(1, -1), -2);
        due("34: no such n", x.law(3, 2), -2);
        due("34: no such n", x.law(4, -1), -2);
        due("34: no such what", x.law(5, 0), -2);
        due("34: no such what", x.law(-1, 0), -2);
        due("34: stays", x.law(0, 3), 99);
    }

    private static void paidAndSure() {
        ShortcutDuty x = Check.told(LAND);
        due("35: one way", x.paid(0, 15), 1);
        due("36: its lane", x.sure(0, 15), 1);
        due("35: one way", x.paid(0, 9), 1);
        due("36: its ford", x.sure(0, 9), 2);
        due("35: three ways", x.paid(0, 0), 3);
        due("36: nothing on all", x.sure(0, 0), 0);
        due("35: none", x.paid(0, 7), 0);
        due("36: none", x.sure(0, 7), NONE);
        due("35: of one that is not lawful", x.paid(1, 15), 1);
        due("36: of one that is not lawful", x.sure(1, 15), 1);
        due("35: on a flood", x.paid(1, 9), 0);
        due("35: a duty below 0", x.paid(0, -1), -2);
        due("36: a duty below 0", x.sure(0, -1), -2);
        due("35: no such walk", x.paid(4, 0), -2);
        due("36: no such walk", x.sure(-1, 0), -2);
        x.law(4, 1);
        due("35: its load", x.paid(0, 30), 1);
        due("35: its load", x.paid(1, 45), 1);
        ShortcutDuty y = Check.told(Check.HEAD + "walk 0 load 1 on 0 from 0 by 1 0;");
        due("35: to itself", y.paid(0, 0), 1);
        due("36: to itself", y.sure(0, 0), 0);
        due("38: to itself", y.must(0, 1, 0, 0), NONE);
    }

    private static void ford() {
        ShortcutDuty x = Check.told(LAND);
        due("37: it has nothing", x.ford(0), -6);
        x.row(0, 0, 4);
        due("37: all 0", x.ford(0), NONE);
        x.write(0, 0, 15);
        x.write(0, 1, 15);
        x.write(0, 3, 9);
        due("37: all can", x.ford(0), NONE);
        x.write(0, 3, 15);
        due("37: the last can't", x.ford(0), 3);
        x.write(0, 1, 9);
        due("37: the first that can't", x.ford(0), 1);
        x.row(1, 3, 4);
        x.write(1, 0, 15 + (1L << 32));
        due("37: a wide number", x.ford(1), 0);
        x.row(1, 2, 4);
        x.write(1, 0, 15 + (1L << 32));
        due("37: cut to four bytes", x.ford(1), NONE);
        x.row(2, 1, 3);
        due("37: not as many", x.ford(2), -7);
        x.row(2, 1, 5);
        due("37: more than there are", x.ford(2), -7);
        due("37: no such slot", x.ford(4), -2);
        due("37: no such slot", x.ford(-1), -2);
        ShortcutDuty y = Check.told(Check.HEAD);
        y.row(3, 1, 0);
        due("37: no walks", y.ford(3), NONE);
        due("37: no kingdom", new ShortcutDuty().ford(0), -2);
    }

    private static void must() {
        ShortcutDuty x = Check.told(LAND);
        due("38: 15 less 2", x.must(0, 3, 1, 36), 2);
        due("38: the other way round", x.must(3, 0, 1, 36), 2);
        due("38: the boat is as short", x.must(0, 3, 1, 15), NONE);
        due("38: the boat is as short", x.must(0, 3, 1, 18), 8);
        due("38: the least of several", x.must(1, 3, 1, 9), 2);
        due("38: nothing owed", x.must(1, 3, 1, 0), 5);
        due("38: the ford is open", x.must(1, 3, 0, 6), 3);
        due("38: never so much", x.must(0, 3, 1, 42), NONE);
        due("38: in thought", x.count(3), 3);
        due("38: one twice", x.must(1, 1, 0, 0), -2);
        due("38: no such place", x.must(1, 4, 0, 0), -2);
        due("38: no such walk", x.must(0, 1, 4, 0), -2);
        due("38: a duty below 0", x.must(0, 1, 0, -1), -2);
        ShortcutDuty y = Check.told("kingdom places 4 days 1 rate 1 free 0 time 0; road 0 to 1 30; road 1 to 2 30;"
                + "road 2 to 3 30; walk 0 load 1 on 0 from 0 by 1 2 3;");
        due("38: long ones", y.must(0, 3, 0, 1), 89);
        due("38: longer than by road", y.must(0, 3, 0, 0), 90);
    }

    private static void seenAndCaught() {
        ShortcutDuty x = Check.told(LAND);
        due("39: draw 0", x.seen(0, 0), 1);
        due("39: draw 38 below 50", x.seen(1, 0), 1);
        due("39: draw 55", x.seen(5, 0), 0);
        due("39: draw 38 above 20", x.seen(1, 3), 0);
        due("39: draw 17 below 20", x.seen(4, 3), 1);
        due("39: none watched", x.seen(0, 2), 0);
        due("39: not lawful", x.seen(0, 1), NONE);
        due("39: no such walk", x.seen(0, 4), -2);
        due("39: no such seed", x.seen(-1, 0), -2);
        due("39: no such seed", x.seen(2000000001, 0), -2);
        due("39: no such seed, not lawful", x.seen(-1, 1), -2);
        ShortcutDuty y = Check.told(Check.HEAD + "ford 0 to 1 2 watched 39; ford 1 to 2 2 watched 1;"
                + "ford 2 to 3 1 watched 0; walk 0 load 1 on 0 from 1 by 2 3 2 1 0; road 0 to 1 3;"
                + "walk 0 load 1 on 0 from 1 by 2; walk 0 load 1 on 0 from 0 by 1;");
        // From seed 1 the draws are 38, 58, 13, 15, 51, ..; unwatched steps draw none.
        due("39: the third draw, 13 below 39", y.seen(1, 0), 1);
        due("39: draw 38 above 1", y.seen(1, 1), 0);
        due("39: draw 38 below 39", y.seen(1, 2), 1);
        due("40: one of each", x.caught(0, 1), 24);
        due("40: two of each", x.caught(0, 2), 39);
        due("40: draw 55", x.caught(5, 1), 0);
        due("40: no such n", x.caught(0, 0), -2);
        due("40: no such n", x.caught(0, 21), -2);
        due("40: no such seed", x.caught(-1, 1), -2);
        due("40: no such seed", x.caught(2000000001, 1), -2);
        int sum = 0;
        for (int i = 0; i < 20; i++) {
            sum += draw(2000000000L - 19 + i) < 50 ? 15 : 0;
            sum += draw(2000000000L - 19 + i) < 20 ? 9 : 0;
        }
        due("40: twenty", x.caught(2000000000 - 19, 20), sum);
    }

    /** The first draw from a seed. */
    private static long draw(long seed) {
        return (1103515245L * seed + 12345L) % 2147483648L / 65536L % 100L;
    }

    private static void count() {
        ShortcutDuty x = Check.told(LAND + "flood on 2; flood on 5; law free;");
        int[] counts = {4, 7, 3, 3, 4, 2, 15, 0, 0};
        for (int what = 0; what < 9; what++) {
            due("41: count(" + what + ")", x.count(what), counts[what]);
        }
        x.feed(0, 0, 0, 0, 0);
        x.row(3, 0, 0);
        due("41: bytes", x.count(7), 20);
        due("41: a row of none is a row", x.count(8), 1);
        due("41: others", x.count(9), NONE);
        due("41: others", x.count(-1), NONE);
    }

    private static void images() {
        ShortcutDuty x = Check.told(LAND);
        due("42: keep", x.keep(0), 0);
        due("42: no such k", x.keep(3), -2);
        due("42: no such k", x.keep(-1), -2);
        due("43: it has nothing", x.back(1), -6);
        due("43: no such k", x.back(3), -2);
        due("43: no such k", x.back(-1), -2);
        x.law(0, 9);
        due("42: keep", x.keep(2), 0);
        Check.tell(x, SMALL);
        due("43: back", x.back(0), 0);
        due("43: with its law", x.takings(NONE), 24);
        due("43: with its lines", x.count(6), 12);
        due("43: with its roads", x.road(0, 3), 15);
        due("43: back", x.back(2), 0);
        due("43: with its law", x.takings(NONE), 72);
        x.law(0, 1);
        due("43: an image stays", x.back(2), 0);
        due("43: an image stays", x.law(0, 9), 9);
        x.end(0);
        x.kingdom();
        due("42: none is kept too", x.keep(1), 0);
        x.back(0);
        due("43: none comes back", x.back(1), 0);
        due("43: none comes back", x.unlawful(), -2);
        x.row(0, 0, 1);
        x.feed(0, 0, 0, 0, 0);
        x.back(0);
        due("43: slots stay", x.count(8), 1);
        due("43: the tape stays", x.count(7), 20);
    }

    private static void rows() {
        ShortcutDuty x = Check.told(SMALL);
        due("44: row", x.row(0, 3, 60), 0);
        due("44: no such slot", x.row(4, 0, 1), -2);
        due("44: no such slot", x.row(-1, 0, -1), -2);
        due("44: no such width", x.row(0, 4, 1), -2);
        due("44: no such width", x.row(0, -1, -1), -2);
        due("44: too many", x.row(0, 0, 61), -2);
        due("44: below 0", x.row(0, 0, -1), -3);
        due("44: the slot stays", x.write(0, 59, 1), 0);
        due("45: beyond", x.write(0, 60, 1), -7);
        due("45: below 0", x.write(0, -1, 1), -7);
        due("45: no such slot", x.write(4, 0, 1), -2);
        due("45: no such slot", x.write(-1, 0, 1), -2);
        due("45: it has nothing", x.write(1, 0, 1), -6);
        x.law(0, 22);
        for (int width = 0; width < 4; width++) {
            x.row(0, width, 1);
            x.write(0, 0, 132);
            due("45: 132 of width " + width, x.ford(0), width == 0 ? 0 : NONE);
            x.write(0, 0, 132 + (1L << (8 << width) % 64));
            due("45: cut to width " + width, x.ford(0), width == 3 || width == 0 ? 0 : NONE);
            x.row(0, width, 1);
            due("44: all 0", x.ford(0), NONE);
        }
        x.law(0, 10);
        x.row(0, 0, 1);
        x.write(0, 0, 60 + 256);
        due("45: cut to one byte", x.ford(0), NONE);
        x.row(2, 0, 0);
        due("45: a row of none", x.write(2, 0, 1), -7);
    }

    private static void paste() {
        ShortcutDuty x = Check.told(SMALL + "walk 0 load 1 on 0 from 0 by 2; walk 0 load 1 on 0 from 0 by 2;");
        x.row(0, 1, 3);
        x.row(1, 1, 5);
        x.row(2, 2, 3);
        x.write(1, 2, 6);
        x.write(1, 3, 7);
        due("46: no such slot", x.paste(4, 0, 0, 0, 0), -2);
        due("46: no such slot", x.paste(0, 0, -1, 0, 0), -2);
        due("46: one has nothing", x.paste(3, 0, 2, 0, -1), -6);
        due("46: one has nothing", x.paste(2, 0, 3, 0, 1), -6);
        due("46: not of one width", x.paste(0, 0, 2, 0, -1), -8);
        due("46: beyond its row", x.paste(1, 4, 0, 0, 2), -7);
        due("46: beyond the other row", x.paste(1, 0, 0, 2, 2), -7);
        due("46: a place below 0", x.paste(1, -1, 0, 0, 1), -7);
        due("46: a place below 0", x.paste(1, 0, 0, -1, 1), -7);
        due("46: n below 0", x.paste(1, 0, 0, 0, -1), -7);
        due("46: n too great", x.paste(1, 1, 0, 1, Integer.MAX_VALUE), -7);
        due("46: a place too great", x.paste(1, Integer.MAX_VALUE, 0, 1, 1), -7);
        due("46: nothing happened", x.ford(0), NONE);
        due("46: none at the end", x.paste(1, 5, 0, 3, 0), 0);
        due("46: none behind the end", x.paste(1, 6, 0, 3, 0), -7);
        due("46: put", x.paste(1, 1, 0, 0, 3), 0);
        due("46: 7 is the third", x.ford(0), 2);
        due("46: its own, as they were", x.paste(0, 0, 0, 1, 2), 0);
        due("46: 0, 0, 6", x.ford(0), NONE);
        x.write(0, 0, 7);
        x.paste(0, 0, 0, 1, 2);
        due("46: 7, 7, 0", x.ford(0), 0);
        x.write(0, 0, 6);
        due("46: 6, 7, 0", x.ford(0), 1);
        x.write(0, 1, 6);
        due("46: 6, 6, 0", x.ford(0), NONE);
        x.write(0, 2, 7);
        due("46: back over its own", x.paste(0, 1, 0, 0, 2), 0);
        due("46: 6, 7, 7", x.ford(0), 1);
    }
}
