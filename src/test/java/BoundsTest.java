import java.math.BigInteger;
import java.util.Arrays;
import java.util.function.Consumer;

/** The sentences of promises 1 to 46 that name a boundary case, in order, by answers reckoned by hand. */
public final class BoundsTest {
    private static final Check CHECK = new Check();
    private static final int NONE = ShortcutDuty.NONE;
    private static final int REFUSED = -2000000;
    private static final int LEAST = Integer.MIN_VALUE;
    private static final int MOST = Integer.MAX_VALUE;
    private static final String HEAD = Check.HEAD;
    private static final String LAND = Check.LAND;
    private static final String CHAIN = "road 0 to 1 30; road 1 to 2 30; road 2 to 3 30; road 3 to 4 30;"
            + "road 4 to 5 30; road 5 to 6 30;";

    /** A road of 180, a lane of 1 along it, ten walks on it with the greatest load: 159,489 is due for each. */
    private static final String GREAT = "kingdom places 7 days 30 rate 99 free 0 time 99;" + CHAIN
            + "lane 0 to 6 1 from 0 to 29; law load;" + "walk 4 load 9 on 29 from 0 by 6;".repeat(10);

    /** Six watched fords of 1 along the road of 180, and a walk over them all. */
    private static final String WATCHED = "kingdom places 7 days 1 rate 99 free 0 time 0;" + CHAIN
            + "ford 0 to 1 1 watched 99; ford 1 to 2 1 watched 99; ford 2 to 3 1 watched 99;"
            + "ford 3 to 4 1 watched 99; ford 4 to 5 1 watched 99; ford 5 to 6 1 watched 99;"
            + "law load; walk 0 load 9 on 0 from 0 by 1 2 3 4 5 6;";

    /** One way alone, by which 29 less free, times rate, is owed. */
    private static final String PROBE = "kingdom places 2 days 1 rate 1 free 0 time 0;"
            + "road 0 to 1 30; ford 0 to 1 1; walk 0 load 8 on 0 from 0 by 1;";

    private interface Call {
        long of(int n);
    }

    public static void main(String[] args) {
        noKingdom();
        feed();
        end();
        kingdom();
        fault();
        road();
        way();
        open();
        joins();
        walk();
        unlawfulAndSteps();
        ofOneWalk();
        saved();
        duty();
        lanes();
        owesAndTakings();
        chance();
        hope();
        shortestHiddenWays();
        bestAndGoes();
        all();
        lane();
        help();
        bend();
        duke();
        watchers();
        by();
        rate();
        law();
        paidAndSure();
        ford();
        must();
        seen();
        caught();
        count();
        keepAndBack();
        row();
        write();
        writeIsCut();
        pasteRefused();
        pasteFull();
        pasteOverItself();
        refusedCallsChangeNothing();
        CHECK.close("BoundsTest");
    }

    private static void due(String call, long got, long want) {
        CHECK.due(call, got, want);
    }

    /** Beyond least .. most a call is refused; at both ends it is not. */
    private static void bounded(String call, int least, int most, long refusal, Call answer) {
        for (int n : new int[] {least - 1, most + 1, LEAST, MOST, LEAST + 1, MOST - 1}) {
            due(call + " with " + n, answer.of(n), refusal);
        }
        for (int n : new int[] {least, most}) {
            due(call + " takes " + n, answer.of(n) == refusal ? 1 : 0, 0);
        }
    }

    // Promise 1, and "no KINGDOM" of all the others.

    private static void noKingdom() {
        noKingdom("new", new ShortcutDuty());
        ShortcutDuty x = Check.told(LAND);
        due("4: an empty tape", x.kingdom(), 0);
        noKingdom("empty", x);
        ShortcutDuty y = new ShortcutDuty();
        due("4: a fault on a new one", Check.tell(y, "@"), -4);
        noKingdom("faulty", y);
        ShortcutDuty z = new ShortcutDuty();
        z.keep(2);
        Check.tell(z, LAND);
        z.back(2);
        noKingdom("back", z);
    }

    private static void noKingdom(String state, ShortcutDuty x) {
        long[] refused = {x.road(0, 0), x.road(0, 1), x.way(0, 0, 0), x.way(0, 1, 0), x.open(0, 0), x.joins(0, 1, 0),
            x.walk(0, 0), x.unlawful(), x.steps(0), x.length(0), x.saved(0), x.duty(0), x.lanes(0), x.owes(0),
            x.takings(0), x.takings(NONE), x.chance(0, 0), x.hope(0, 0), x.shortest(0, 1, 0), x.hidden(0, 1, 0),
            x.best(0, 1, 0, 1, 0), x.goes(0, 1, 0, 1, 0), x.ways(0, 1, 0), x.all(0), x.help(1), x.duke(1),
            x.watchers(0), x.watchers(1), x.by(0, 0), x.rate(1), x.law(0, 0), x.law(3, 0), x.paid(0, 0),
            x.sure(0, 0), x.ford(0), x.must(0, 1, 0, 0), x.seen(0, 0), x.caught(0, 1)};
        for (int i = 0; i < refused.length; i++) {
            due("1: " + state + ", the call " + i, refused[i], -2);
        }
        due("1: " + state + ", lane", x.lane(0, 1, 1, 0), REFUSED);
        due("1: " + state + ", bend", x.bend(0, 1, 0), REFUSED);
        for (int what = 0; what <= 6; what++) {
            due("1: " + state + ", count " + what, x.count(what), 0);
        }
        x.row(0, 0, 0);
        due("37: " + state + ", no KINGDOM though as many", x.ford(0), -2);
        due("37: " + state + ", no KINGDOM ahead of nothing there", x.ford(1), -2);
    }

    // The tape and the text.

    private static void feed() {
        ShortcutDuty x = new ShortcutDuty();
        for (int i = 1; i <= 100; i++) {
            due("2: feed " + i, x.feed(LEAST, MOST, -1, 0, i), 20 * i);
        }
        due("2: more than 2,000", x.feed(0, 0, 0, 0, 0), NONE);
        due("2: none come", x.count(7), 2000);
        for (int n : new int[] {1999, 1990, 1981}) {
            due("3: end", x.end(n), n);
            due("2: more than 2,000 from " + n, x.feed(0, 0, 0, 0, 0), NONE);
            due("2: none come, not a part either", x.count(7), n);
        }
        due("3: end", x.end(1980), 1980);
        due("2: 2,000 are not too many", x.feed(0, 0, 0, 0, 0), 2000);
        ShortcutDuty y = new ShortcutDuty();
        y.feed(0x20202020, 0x20202020, 0x20202020, 0x20202020, 0x20202080);
        due("2: a byte above 127 at the last place", y.kingdom(), -4);
        due("2: its place", y.fault(1), 19);
        y.feed(0x80202020, 0, 0, 0, 0);
        due("2: the highest first", y.kingdom(), -4);
        due("2: its place", y.fault(1), 0);
        y.feed(0x20200020, 0x20, 0, 0, 0);
        due("2: a byte of 0 is no blank", y.kingdom(), -4);
        due("2: its place", y.fault(1), 2);
    }

    private static void end() {
        ShortcutDuty x = new ShortcutDuty();
        due("3: none of an empty one", x.end(0), 0);
        due("3: one of an empty one", x.end(1), NONE);
        x.feed(0, 0, 0, 0, 0);
        for (int n : new int[] {21, MOST, -1, LEAST}) {
            due("3: it has not so many, or below 0: " + n, x.end(n), NONE);
            due("3: nothing happens", x.count(7), 20);
        }
        due("3: as many as it has", x.end(20), 20);
        due("3: one less", x.end(19), 19);
        due("3: those are gone", x.end(20), NONE);
        due("3: none", x.end(0), 0);
        due("3: empty", x.count(7), 0);
        x.feed(0x6c617720, 0, 0, 0, 0);
        x.end(4);
        x.feed(0x20202020, 0x20202020, 0x20202020, 0x20202020, 0x20202020);
        due("3: what comes then stands behind them", x.count(7), 24);
        due("3: a word ahead of kingdom", x.kingdom(), -4);
        due("3: its place", x.fault(1), 0);
    }

    private static void kingdom() {
        ShortcutDuty x = new ShortcutDuty();
        due("4: an empty tape", x.kingdom(), 0);
        due("4: LINES", Check.tell(x, LAND + "law free; law load; flood on 6;"), 15);
        due("4: the tape is empty then", x.count(7), 0);
        due("4: in place of another", Check.tell(x, HEAD), 1);
        int[] counts = {4, 7, 0, 0, 0, 0, 1, 0, 0};
        for (int what = 0; what <= 8; what++) {
            due("4: nothing of the other is left, count " + what, x.count(what), counts[what]);
        }
        due("4: nor its roads", x.road(0, 1), NONE);
        due("4: nor its lanes", x.joins(0, 2, 0), NONE);
        due("4: nor its Sundays", x.law(3, 1), 1);
        due("4: nor its loads", x.law(4, 0), 0);
        due("4: an empty tape again", x.kingdom(), 0);
        due("4: there is none then", x.unlawful(), -2);
        due("4: blanks alone", Check.tell(x, "\n "), 0);
        unchanged("4: a fault at the last byte", y -> due("4: fault", Check.tell(y, LAND + LAND), -4), true);
        unchanged("4: a fault at the first byte", y -> due("4: fault", Check.tell(y, "@"), -4), true);
        unchanged("4: a fault behind other laws", y -> due("4: fault", Check.tell(y, "kingdom places 7 days 30 rate 9"
                + " free 9 time 9; road 0 to 6 9; law load; law free; walk 4 load 9 on 9 from 0 by 6; x"), -4), true);
    }

    private static void fault() {
        ShortcutDuty x = new ShortcutDuty();
        due("5: ahead of any", x.fault(0), 0);
        due("5: ahead of any", x.fault(1), NONE);
        Check.tell(x, "@");
        due("5: at the first byte", x.fault(0), 1);
        due("5: at the first byte", x.fault(1), 0);
        for (int what : new int[] {-1, 2, LEAST, MOST}) {
            due("5: another what", x.fault(what), NONE);
        }
        x.end(0);
        due("5: of the latest kingdom()", x.fault(0), 1);
        x.kingdom();
        due("5: an empty one has none", x.fault(0), 0);
        due("5: an empty one has none", x.fault(1), NONE);
        Check.tell(x, HEAD + "road 0 to 9 1;");
        x.keep(0);
        x.back(0);
        due("5: of the latest kingdom(), not of an image", x.fault(0), 2);
        due("5: of the latest kingdom(), not of an image", x.fault(1), 55);
        Check.tell(x, HEAD);
        due("5: a sound one has none", x.fault(0), 0);
        due("5: a sound one has none", x.fault(1), NONE);
    }

    // Roads and lanes.

    private static void road() {
        ShortcutDuty x = Check.told(LAND);
        bounded("6: from", 0, 3, -2, n -> x.road(n, 0));
        bounded("6: to", 0, 3, -2, n -> x.road(3, n));
        due("6: none such, both alike", x.road(4, 4), -2);
        due("6: none such, both alike", x.road(-1, -1), -2);
        ShortcutDuty y = Check.told("kingdom places 7 days 1 rate 0 free 0 time 0;" + CHAIN);
        due("6: as long as can be", y.road(0, 6), 180);
        due("6: as long as can be", y.road(6, 0), 180);
        ShortcutDuty z = Check.told(HEAD + "boat 0 to 1 1; road 2 to 3 1;");
        for (int p = 0; p < 4; p++) {
            due("6: to itself", z.road(p, p), 0);
        }
        due("6: lanes are no roads", z.road(0, 1), NONE);
        due("6: no way", z.road(1, 3), NONE);
        due("6: the shortest that can be", z.road(3, 2), 1);
    }

    private static void way() {
        ShortcutDuty x = Check.told("kingdom places 7 days 1 rate 0 free 0 time 0;" + CHAIN);
        for (int i = 0; i < 7; i++) {
            due("7: all places", x.way(0, 6, i), i);
            due("7: all places back", x.way(6, 0, i), 6 - i);
            due("7: to itself", x.way(i, i, 0), i);
            due("7: to itself, behind its end", x.way(i, i, 1), NONE);
        }
        for (int i : new int[] {7, 8, -1, LEAST, MOST}) {
            due("7: none such, " + i, x.way(0, 6, i), NONE);
            due("7: none such, to itself, " + i, x.way(3, 3, i), NONE);
        }
        due("7: behind the end of a short one", x.way(0, 1, 2), NONE);
        bounded("7: from", 0, 6, -2, n -> x.way(n, 0, 0));
        bounded("7: to", 0, 6, -2, n -> x.way(0, n, 0));
        due("7: no such PLACE ahead of no such i", x.way(7, 0, 9), -2);
        ShortcutDuty y = Check.told(HEAD + "road 2 to 3 1;");
        due("7: no way, the first PLACE", y.way(0, 3, 0), NONE);
    }

    private static void open() {
        ShortcutDuty x = Check.told("kingdom places 2 days 30 rate 0 free 0 time 0; lane 0 to 1 1 from 0 to 29;"
                + "lane 0 to 1 1 from 0 to 0; lane 0 to 1 1 from 29 to 29; lane 0 to 1 1 from 3 to 4; ford 0 to 1 1;"
                + "boat 0 to 1 1; flood on 0; flood on 29; flood on 3; ford 1 to 0 2; lane 0 to 1 1 from 3 to 3;");
        for (int day = 0; day < 30; day++) {
            boolean isFlood = day == 0 || day == 29 || day == 3;
            due("8: on all days, " + day, x.open(0, day), 1);
            due("8: on the first day alone, " + day, x.open(1, day), day == 0 ? 1 : 0);
            due("8: on the last day alone, " + day, x.open(2, day), day == 29 ? 1 : 0);
            due("8: from 3 to 4, " + day, x.open(3, day), day == 3 || day == 4 ? 1 : 0);
            due("8: a ford without flood, " + day, x.open(4, day), isFlood ? 0 : 1);
            due("8: a boat always, " + day, x.open(5, day), 1);
            due("8: another ford, " + day, x.open(6, day), isFlood ? 0 : 1);
            due("8: from 3 to 3, " + day, x.open(7, day), day == 3 ? 1 : 0);
        }
        bounded("8: LANE", 0, 7, -2, n -> x.open(n, 0));
        bounded("8: DAY", 0, 29, -2, n -> x.open(0, n));
        due("8: no LANES", Check.told(HEAD).open(0, 0), -2);
    }

    private static void joins() {
        ShortcutDuty x = Check.told(LAND);
        bounded("9: a", 0, 3, -2, n -> x.joins(n, 1, 0));
        bounded("9: b", 0, 3, -2, n -> x.joins(1, n, 0));
        bounded("9: DAY", 0, 6, -2, n -> x.joins(0, 1, n));
        for (int p = -1; p <= 4; p++) {
            due("9: one twice, " + p, x.joins(p, p, 0), -2);
        }
        StringBuilder most = new StringBuilder("kingdom places 7 days 1 rate 0 free 0 time 0;");
        int roads = 0;
        for (int a = 0; a < 7; a++) {
            for (int b = a + 1; b < 7 && roads < 12; b++) {
                most.append("road " + a + " to " + b + " 2;");
                roads++;
            }
        }
        ShortcutDuty y = Check.told(most + "boat 5 to 6 30;".repeat(7) + "boat 6 to 5 29; ");
        due("9: the last ROAD", y.joins(2, 3, 0), 11);
        due("9: the last LANE", y.joins(5, 6, 0), 27);
        due("9: nothing", y.joins(4, 5, 0), NONE);
    }

    // Walks as they were told.

    private static void walk() {
        ShortcutDuty x = Check.told(GREAT);
        bounded("10: WALK", 0, 9, -2, n -> x.walk(n, 0));
        bounded("10: what", 0, 5, -2, n -> x.walk(0, n));
        int[] last = {4, 9, 29, 0, 6, 1};
        for (int what = 0; what <= 5; what++) {
            due("10: the last, what " + what, x.walk(9, what), last[what]);
        }
        due("10: no WALKS", Check.told(HEAD).walk(0, 0), -2);
        ShortcutDuty y = Check.told(WATCHED);
        due("10: steps at most", y.walk(0, 5), 6);
        due("10: to, behind all steps", y.walk(0, 4), 6);
        bounded("10: WALK of one", 0, 0, -2, n -> y.walk(n, 5));
    }

    private static void unlawfulAndSteps() {
        due("11: no WALKS", Check.told(HEAD).unlawful(), NONE);
        due("11: all of ten are", Check.told(GREAT).unlawful(), NONE);
        String road = HEAD + "road 0 to 1 1;";
        String lawful = "walk 0 load 1 on 0 from 0 by 1;";
        due("11: the last of ten", Check.told(road + lawful.repeat(9) + "walk 0 load 1 on 0 from 0 by 2;").unlawful(), 9);
        due("11: the first of ten", Check.told(road + "walk 0 load 1 on 0 from 0 by 2;" + lawful).unlawful(), 0);
        for (int ahead = 0; ahead <= 5; ahead++) {
            String stops = " 1 0".repeat(3).substring(0, 2 * ahead);
            ShortcutDuty x = Check.told(road + "walk 0 load 1 on 0 from 0 by" + stops + " 2;");
            due("12: the first that is not, behind " + ahead, x.steps(0), ahead);
            due("11: not lawful at its last step", x.unlawful(), 0);
        }
        ShortcutDuty y = Check.told(road + "walk 0 load 1 on 0 from 0 by 1 0 1 0 1 0; walk 0 load 1 on 0 from 0 by 2 1 0;");
        due("12: all six", y.steps(0), 6);
        due("12: lawful steps behind one that is not", y.steps(1), 0);
        bounded("12: WALK", 0, 1, -2, y::steps);
        due("12: no WALKS", Check.told(HEAD).steps(0), -2);
    }

    private static void ofOneWalk() {
        ShortcutDuty x = Check.told(LAND);
        bounded("13: WALK", 0, 3, -2, x::length);
        bounded("14: WALK", 0, 3, -2, x::saved);
        bounded("15: WALK", 0, 3, -2, x::duty);
        bounded("16: WALK", 0, 3, -2, x::lanes);
        bounded("19: WALK", 0, 3, -2, n -> x.chance(n, 0));
        bounded("20: WALK", 0, 3, -2, n -> x.hope(n, 0));
        bounded("35: WALK", 0, 3, -2, n -> x.paid(n, 0));
        bounded("36: WALK", 0, 3, -2, n -> x.sure(n, 0));
        bounded("38: WALK", 0, 3, -2, n -> x.must(0, 1, n, 0));
        bounded("39: WALK", 0, 3, -2, n -> x.seen(0, n));
        long[] unlawful = {x.length(1), x.saved(1), x.duty(1), x.lanes(1), x.chance(1, 0), x.chance(1, 1),
            x.hope(1, 0), x.hope(1, 1), x.seen(0, 1)};
        for (int i = 0; i < unlawful.length; i++) {
            due("13 to 39: not lawful, " + i, unlawful[i], NONE);
        }
        ShortcutDuty y = Check.told(HEAD + "road 0 to 1 30; boat 2 to 3 1; walk 0 load 1 on 0 from 0 by 1 0 1 0 1 0;"
                + "walk 0 load 1 on 0 from 2 by 3;");
        due("13: as long as can be", y.length(0), 180);
        due("13: as short as can be", y.length(1), 1);
    }

    private static void saved() {
        for (int n = 8; n <= 11; n++) {
            ShortcutDuty x = Check.told("kingdom places 3 days 1 rate 5 free 0 time 0; road 0 to 1 5; road 1 to 2 5;"
                    + "boat 0 to 2 " + n + "; walk 0 load 1 on 0 from 0 by 2;");
            due("14: 0 at least, " + n, x.saved(0), Math.max(0, 10 - n));
        }
        due("14: as much as can be", Check.told(GREAT).saved(0), 179);
        ShortcutDuty y = Check.told(HEAD + "boat 0 to 1 1; road 2 to 3 9; walk 0 load 1 on 0 from 0 by 1;"
                + "walk 0 load 1 on 0 from 2 by 3 2;");
        due("14: no way BY ROAD", y.saved(0), 0);
        due("14: from a PLACE to itself", y.saved(1), 0);
    }

    private static void duty() {
        for (int free = 0; free <= 8; free++) {
            ShortcutDuty x = Check.told("kingdom places 3 days 1 rate 5 free " + free + " time 0; road 0 to 1 5;"
                    + "road 1 to 2 5; lane 0 to 2 4 from 0 to 0; walk 0 load 9 on 0 from 0 by 2;");
            due("15: what is SAVED above free " + free, x.duty(0), free < 6 ? 5 * (6 - free) : 0);
        }
        ShortcutDuty great = Check.told(GREAT);
        due("15: as much as can be", great.duty(9), 159489);
        great.law(1, 99);
        due("15: the most that is free", great.duty(9), 80 * 99 * 9);
        great.law(0, 0);
        due("15: no rate", great.duty(9), 0);
        StringBuilder month = new StringBuilder("kingdom places 2 days 30 rate 1 free 0 time 0; road 0 to 1 3;"
                + "ford 0 to 1 1;");
        for (int first = 0; first < 30; first += 10) {
            StringBuilder walks = new StringBuilder();
            for (int day = first; day < first + 10; day++) {
                walks.append("walk 0 load 9 on " + day + " from 0 by 1;");
            }
            ShortcutDuty due = Check.told(month.toString() + walks);
            ShortcutDuty free = Check.told(month + "law free;" + walks);
            for (int day = first; day < first + 10; day++) {
                boolean isSunday = day == 6 || day == 13 || day == 20 || day == 27;
                due("15: Sundays are due, " + day, due.duty(day - first), 2);
                due("15: Sundays are free, " + day, free.duty(day - first), isSunday ? 0 : 2);
            }
        }
        ShortcutDuty y = Check.told(HEAD + "road 0 to 1 30; road 1 to 2 30; boat 0 to 1 1; ford 1 to 2 1;"
                + "walk 0 load 1 on 0 from 0 by 1 2; walk 0 load 1 on 0 from 1 by 2;");
        due("15: a boat on one of its steps", y.duty(0), 0);
        due("15: no boat on it", y.duty(1), 84);
    }

    private static void lanes() {
        due("16: six of them", Check.told(WATCHED).lanes(0), 63);
        ShortcutDuty x = Check.told(HEAD + "boat 0 to 2 1;".repeat(7) + "boat 0 to 1 1; road 1 to 2 1;"
                + "walk 0 load 1 on 0 from 0 by 1; walk 0 load 1 on 0 from 1 by 2; walk 0 load 1 on 0 from 0 by 2 0 1;");
        due("16: the last LANE", x.lanes(0), 128);
        due("16: none", x.lanes(1), 0);
        due("16: the first and the last", x.lanes(2), 129);
    }

    private static void owesAndTakings() {
        ShortcutDuty x = Check.told(GREAT);
        bounded("17: walker", 0, 4, -2, x::owes);
        due("17: all of ten", x.owes(4), 1594890);
        due("17: none", x.owes(0), 0);
        due("17: no WALKS", Check.told(HEAD).owes(0), 0);
        bounded("18: DAY, or NONE", NONE, 29, -2, x::takings);
        due("18: the last DAY", x.takings(29), 1594890);
        due("18: the first DAY", x.takings(0), 0);
        due("18: on all", x.takings(NONE), 1594890);
        due("18: no WALKS", Check.told(HEAD).takings(NONE), 0);
        ShortcutDuty y = Check.told(LAND);
        bounded("18: DAY, or NONE", NONE, 6, -2, y::takings);
        due("18: none that is lawful", y.takings(2), 0);
    }

    // Chances.

    private static void chance() {
        int[][] each = {{0, 0, 1}, {1, 1, 100}, {50, 1, 2}, {99, 99, 100}, {100, 1, 1}};
        for (int[] of : each) {
            ShortcutDuty x = Check.told(HEAD + "ford 0 to 1 2 watched " + of[0] + "; walk 0 load 1 on 0 from 0 by 1;");
            due("19: above, watched " + of[0], x.chance(0, 0), of[1]);
            due("19: below, watched " + of[0], x.chance(0, 1), of[2]);
        }
        ShortcutDuty y = Check.told(WATCHED);
        due("19: six steps, above", y.chance(0, 0), 999999999999L);
        due("19: six steps, below", y.chance(0, 1), 1000000000000L);
        bounded("19: what", 0, 1, -2, n -> y.chance(0, n));
        due("19: no such what ahead of not lawful", Check.told(LAND).chance(1, 2), -2);
        ShortcutDuty z = Check.told(HEAD + "ford 0 to 1 2 watched 1; walk 0 load 1 on 0 from 0 by 1 0 1 0 1 0;");
        due("19: six steps by one LANE, apart, above", z.chance(0, 0), 1000000000000L - 99L * 99 * 99 * 99 * 99 * 99);
        due("19: six steps by one LANE, apart, below", z.chance(0, 1), 1000000000000L);
    }

    private static void hope() {
        ShortcutDuty x = Check.told(WATCHED);
        due("20: DUTY", x.duty(0), 174 * 99 * 9);
        due("20: as much as can be, above", x.hope(0, 0), 77516999999922483L);
        due("20: as much as can be, below", x.hope(0, 1), 500000000000L);
        bounded("20: what", 0, 1, -2, n -> x.hope(0, n));
        x.law(0, 0);
        due("20: no DUTY, above", x.hope(0, 0), 0);
        due("20: no DUTY, below", x.hope(0, 1), 1);
        ShortcutDuty y = Check.told(GREAT);
        due("20: no CHANCE, above", y.hope(0, 0), 0);
        due("20: no CHANCE, below", y.hope(0, 1), 1);
        ShortcutDuty z = Check.told(PROBE.replace("ford 0 to 1 1", "ford 0 to 1 1 watched 100"));
        due("20: sure, above", z.hope(0, 0), 29);
        due("20: sure, below", z.hope(0, 1), 1);
        due("20: no such what ahead of not lawful", Check.told(LAND).hope(1, -1), -2);
    }

    // Ways.

    private static void shortestHiddenWays() {
        ShortcutDuty x = Check.told(LAND);
        bounded("21: from", 0, 3, -2, n -> x.shortest(n, 1, 0));
        bounded("21: to", 0, 3, -2, n -> x.shortest(1, n, 0));
        bounded("21: DAY", 0, 6, -2, n -> x.shortest(0, 1, n));
        bounded("22: from", 0, 3, -2, n -> x.hidden(n, 1, 0));
        bounded("22: to", 0, 3, -2, n -> x.hidden(1, n, 0));
        bounded("22: DAY", 0, 6, -2, n -> x.hidden(0, 1, n));
        bounded("25: from", 0, 3, -2, n -> x.ways(n, 1, 0));
        bounded("25: to", 0, 3, -2, n -> x.ways(1, n, 0));
        bounded("25: DAY", 0, 6, -2, n -> x.ways(0, 1, n));
        for (int p = -1; p <= 4; p++) {
            due("21: one twice, " + p, x.shortest(p, p, 0), -2);
            due("22: one twice, " + p, x.hidden(p, p, 0), -2);
            due("25: one twice, " + p, x.ways(p, p, 0), -2);
        }
        ShortcutDuty y = Check.told(HEAD + "ford 0 to 1 9 watched 1; ford 2 to 3 9 watched 0; flood on 3;");
        due("21: none", y.shortest(0, 2, 0), NONE);
        due("21: none on a flood", y.shortest(0, 1, 3), NONE);
        due("22: none", y.hidden(0, 2, 0), NONE);
        due("22: watched 1 is watched", y.hidden(0, 1, 0), NONE);
        due("22: watched 0 is not", y.hidden(2, 3, 0), 9);
        due("22: the first LANE, not watched", Check.told(PROBE).hidden(0, 1, 0), 1);
        due("25: none", y.ways(0, 2, 0), 0);
        due("25: one", y.ways(0, 1, 0), 1);
        due("25: none on a flood", y.ways(0, 1, 3), 0);
        ShortcutDuty z = Check.told("kingdom places 7 days 1 rate 0 free 0 time 0;" + CHAIN);
        due("21: as long as can be", z.shortest(6, 0, 0), 180);
    }

    private static void bestAndGoes() {
        ShortcutDuty x = Check.told(LAND);
        bounded("23: from", 0, 3, -2, n -> x.best(n, 1, 0, 1, 0));
        bounded("23: to", 0, 3, -2, n -> x.best(1, n, 0, 1, 0));
        bounded("23: DAY", 0, 6, -2, n -> x.best(0, 1, n, 1, 0));
        bounded("23: load", 1, 9, -2, n -> x.best(0, 1, 0, n, 0));
        bounded("23: what", 0, 3, -2, n -> x.best(0, 1, 0, 1, n));
        bounded("24: from", 0, 3, -2, n -> x.goes(n, 1, 0, 1, 0));
        bounded("24: to", 0, 3, -2, n -> x.goes(1, n, 0, 1, 0));
        bounded("24: DAY", 0, 6, -2, n -> x.goes(0, 1, n, 1, 0));
        bounded("24: load", 1, 9, -2, n -> x.goes(0, 1, 0, n, 0));
        for (int p = -1; p <= 4; p++) {
            due("23: one twice, " + p, x.best(p, p, 0, 1, 0), -2);
            due("24: one twice, " + p, x.goes(p, p, 0, 1, 0), -2);
        }
        ShortcutDuty y = Check.told(GREAT);
        due("23: cost of the road", y.best(0, 6, 0, 9, 0), 17820);
        due("23: length of the road", y.best(0, 6, 0, 9, 1), 180);
        due("23: PLACES at most", y.best(0, 6, 0, 9, 3), 7);
        for (int i = 0; i < 7; i++) {
            due("24: all PLACES", y.goes(0, 6, 0, 9, i), i);
        }
        for (int i : new int[] {7, -1, LEAST, MOST}) {
            due("24: there are not so many, " + i, y.goes(0, 6, 0, 9, i), NONE);
        }
        y.law(2, 0);
        due("23: no time, no cost", y.best(0, 6, 0, 9, 0), 0);
        due("23: no time, the road", y.best(0, 6, 0, 9, 3), 7);
        y.law(0, 0);
        due("23: no cost at all, the shortest", y.best(0, 6, 0, 9, 3), 2);
        ShortcutDuty z = Check.told(HEAD);
        for (int what = 0; what <= 3; what++) {
            due("23: none, what " + what, z.best(0, 1, 0, 1, what), NONE);
        }
        due("23: no such what ahead of none", z.best(0, 1, 0, 1, 4), -2);
        due("24: none, the first PLACE", z.goes(0, 1, 0, 1, 0), NONE);
        due("24: no such load ahead of none", z.goes(0, 1, 0, 0, 0), -2);
    }

    private static void all() {
        ShortcutDuty x = Check.told(GREAT);
        bounded("26: what", 0, 3, -2, x::all);
        due("26: DUTY of ten", x.all(0), 0);
        due("26: costs of ten", x.all(1), 178200);
        due("26: lengths of ten", x.all(2), 1800);
        due("26: none without a way", x.all(3), 0);
        ShortcutDuty y = Check.told(HEAD);
        ShortcutDuty z = Check.told(HEAD + "walk 0 load 1 on 0 from 0 by 1;".repeat(10));
        ShortcutDuty itself = Check.told(HEAD + "walk 0 load 1 on 0 from 0 by 1 0;");
        for (int what = 0; what <= 3; what++) {
            due("26: no WALKS, what " + what, y.all(what), 0);
            due("26: none has a way, what " + what, z.all(what), what == 3 ? 10 : 0);
            due("26: to itself there is a way, what " + what, itself.all(what), 0);
        }
    }

    // In thought.

    private static void lane() {
        ShortcutDuty x = Check.told(LAND);
        bounded("27: a", 0, 3, REFUSED, n -> x.lane(n, 1, 5, 1));
        bounded("27: b", 0, 3, REFUSED, n -> x.lane(1, n, 5, 1));
        bounded("27: length", 1, 99, REFUSED, n -> x.lane(0, 1, n, 1));
        bounded("27: what", 0, 3, REFUSED, n -> x.lane(0, 1, 5, n));
        for (int p = -1; p <= 4; p++) {
            due("27: one twice, " + p, x.lane(p, p, 1, 0), REFUSED);
        }
        ShortcutDuty y = Check.told("kingdom places 2 days 30 rate 0 free 0 time 99;" + "boat 0 to 1 30;".repeat(8)
                + "walk 0 load 1 on 0 from 0 by 1; walk 0 load 1 on 29 from 1 by 0;");
        due("27: behind eight LANES, on the first DAY and the last", y.lane(0, 1, 29, 2), -2);
        due("27: as long is not taken", y.lane(0, 1, 30, 2), 0);
        due("27: the shortest", y.lane(1, 0, 1, 1), -2 * 99 * 29);
        due("27: the longest is needless", y.lane(1, 0, 99, 1), 0);
        due("27: in thought", y.count(3), 8);
        due("27: in thought", y.length(0), 30);
        ShortcutDuty z = Check.told(HEAD + "walk 0 load 1 on 0 from 0 by 1;");
        due("27: the longest is a way", z.lane(0, 1, 99, 2), 99);
        due("27: one less has none", z.lane(0, 1, 99, 3), -1);
        due("27: no WALKS", Check.told(HEAD).lane(0, 1, 1, 1), 0);
        due("27: with it there are 326 ways, of which the last is the best", lastIsBest().lane(0, 1, 30, 2), 0);
    }

    /** All of seven places joined but 0 and 1, six steps of 1 from 0 over 6, 5, 4, 3, 2 to 1 and all others of 30. */
    private static ShortcutDuty lastIsBest() {
        StringBuilder text = new StringBuilder("kingdom places 7 days 1 rate 0 free 0 time 1;");
        int told = 0;
        for (int a = 0; a < 7; a++) {
            for (int b = a + 1; b < 7; b++) {
                boolean isStep = (b == a + 1 && a > 0) || (a == 0 && b == 6);
                if (a + b > 1) {
                    text.append((told < 12 ? "road " : "ford ") + a + " to " + b + (isStep ? " 1;" : " 30;"));
                    told++;
                }
            }
        }
        ShortcutDuty x = Check.told(text + "walk 0 load 1 on 0 from 0 by 6 5 4 3 2 1;");
        due("25: as many as can be told", x.ways(0, 1, 0), 325);
        due("26: the last is the best", x.all(2), 6);
        return x;
    }

    private static void help() {
        ShortcutDuty x = Check.told("kingdom places 7 days 1 rate 0 free 0 time 1; road 5 to 6 30;"
                + "walk 0 load 1 on 0 from 6 by 5;");
        bounded("28: n", 1, 99, -2, x::help);
        due("28: the last two PLACES", x.help(29), 56);
        due("28: as much is not less", x.help(30), NONE);
        due("28: no WALKS", Check.told(HEAD).help(1), NONE);
        ShortcutDuty y = Check.told("kingdom places 2 days 1 rate 0 free 0 time 0; road 0 to 1 30;"
                + "walk 0 load 1 on 0 from 0 by 1;");
        due("28: no time, not less", y.help(1), NONE);
        y.law(2, 1);
        due("28: the first two PLACES", y.help(1), 1);
        ShortcutDuty z = Check.told("kingdom places 3 days 1 rate 0 free 0 time 1; walk 0 load 1 on 0 from 0 by 2;");
        due("28: a way where none was is no less", z.help(1), NONE);
        due("28: in thought", z.ways(0, 2, 0), 0);
        ShortcutDuty w = Check.told("kingdom places 3 days 1 rate 0 free 0 time 1;" + "boat 0 to 2 30;".repeat(8)
                + "walk 0 load 1 on 0 from 0 by 2;");
        due("28: behind eight LANES", w.help(29), 2);
        due("28: behind eight LANES, not less", w.help(30), NONE);
    }

    private static void bend() {
        ShortcutDuty x = Check.told(LAND);
        bounded("29: ROAD", 0, 2, REFUSED, n -> x.bend(n, 5, 1));
        bounded("29: n", 1, 99, REFUSED, n -> x.bend(0, n, 1));
        bounded("29: what", 0, 3, REFUSED, n -> x.bend(0, 5, n));
        due("29: no ROADS", Check.told(HEAD).bend(0, 1, 0), REFUSED);
        ShortcutDuty y = Check.told(GREAT);
        bounded("29: ROAD of six", 0, 5, REFUSED, n -> y.bend(n, 1, 0));
        due("29: the least, lengths of ten", y.bend(5, 1, 2), 10);
        due("29: the most, lengths of ten", y.bend(5, 99, 2), 990);
        due("29: the most, costs of ten", y.bend(0, 99, 1), 98010);
        due("29: in thought", y.road(0, 6), 180);
        due("29: no WALKS", Check.told(HEAD + "road 0 to 1 1;").bend(0, 99, 1), 0);
    }

    private static void duke() {
        ShortcutDuty x = Check.told(Check.SMALL);
        bounded("30: n", 1, 99, -2, x::duke);
        due("30: the first of several", x.duke(99), 0);
        due("30: no ROADS", Check.told(HEAD).duke(1), NONE);
        due("30: not more", Check.told(GREAT).duke(99), NONE);
        StringBuilder most = new StringBuilder("kingdom places 7 days 1 rate 1 free 0 time 99;");
        int roads = 0;
        for (int a = 0; a < 7; a++) {
            for (int b = a + 1; b < 7 && roads < 12; b++) {
                most.append("road " + a + " to " + b + " 30;");
                roads++;
            }
        }
        ShortcutDuty y = Check.told(most + "ford 2 to 3 1; walk 0 load 1 on 0 from 2 by 3;");
        due("30: the last ROAD", y.duke(1), 11);
        y.law(0, 0);
        due("30: as much is not more", y.duke(1), NONE);
    }

    private static void watchers() {
        ShortcutDuty x = Check.told(LAND);
        bounded("31: what", 0, 1, -2, x::watchers);
        due("31: no WALKS, how many", Check.told(HEAD).watchers(0), NONE);
        due("31: no WALKS, which", Check.told(HEAD).watchers(1), NONE);
        x.law(0, 0);
        due("31: none owe, how many", x.watchers(0), NONE);
        due("31: none owe, which", x.watchers(1), NONE);
        ShortcutDuty y = Check.told(HEAD + "road 0 to 1 30; ford 0 to 1 1; flood on 0;"
                + "walk 0 load 1 on 0 from 0 by 1; walk 0 load 1 on 1 from 0 by 2;");
        due("31: by the ROAD, or not lawful", y.watchers(0), NONE);
        ShortcutDuty one = Check.told(GREAT);
        due("31: one for ten", one.watchers(0), 1);
        due("31: one for ten", one.watchers(1), 1);
        ShortcutDuty last = Check.told(HEAD + "boat 2 to 3 1;".repeat(7) + "road 0 to 1 30; ford 0 to 1 1;"
                + "walk 0 load 1 on 0 from 0 by 1;");
        due("31: the last LANE", last.watchers(1), 128);
        due("31: the last LANE", last.watchers(0), 1);
        due("31: the least of six sets of one", Check.told(WATCHED).watchers(1), 1);
    }

    private static void by() {
        ShortcutDuty x = Check.told(GREAT);
        bounded("32: rate", 0, 99, -2, n -> x.by(n, 0));
        bounded("32: free", 0, 99, -2, n -> x.by(99, n));
        due("32: as much as can be", x.by(99, 0), 1594890);
        due("32: the most that is free", x.by(99, 99), 712800);
        due("32: no rate", x.by(0, 0), 0);
        due("32: in thought", x.takings(NONE), 1594890);
        due("32: in thought", x.law(1, 0), 0);
        due("32: no WALKS", Check.told(HEAD).by(99, 0), 0);
        x.lane(0, 6, 1, 1);
        x.law(4, 0);
        due("32: by the rest of the law as it is now", x.by(99, 0), 177210);
        due("33: by the rest of the law as it is now", x.rate(1791), 2);
        ShortcutDuty y = Check.told(PROBE);
        due("32: one above free", y.by(7, 28), 7);
        due("32: as much as is free", y.by(7, 29), 0);
    }

    private static void rate() {
        ShortcutDuty x = Check.told(GREAT);
        bounded("33: n", 1, 999999, -2, x::rate);
        due("33: the least n", x.rate(1), 1);
        due("33: at least 16,110", x.rate(16110), 1);
        due("33: at least 16,111", x.rate(16111), 2);
        due("33: at least 998,820", x.rate(998820), 62);
        due("33: at least 998,821", x.rate(998821), 63);
        due("33: the most n", x.rate(999999), 63);
        due("33: in thought", x.law(0, 99), 99);
        ShortcutDuty y = Check.told(PROBE);
        due("33: the greatest rate", y.rate(99 * 29), 99);
        due("33: by none", y.rate(99 * 29 + 1), NONE);
        due("33: by none", y.rate(999999), NONE);
        y.law(1, 29);
        due("33: all is free", y.rate(1), NONE);
        due("33: no WALKS", Check.told(HEAD).rate(1), NONE);
    }

    private static void law() {
        ShortcutDuty x = Check.told(LAND);
        int[] was = {3, 1, 1, 1, 0};
        for (int what = 0; what <= 4; what++) {
            int it = what;
            int most = what < 3 ? 99 : 1;
            due("34: what it was, " + what, x.law(what, 0), was[what]);
            bounded("34: n of what " + what, 0, most, -2, n -> x.law(it, n));
            due("34: the most, and no refused one, " + what, x.law(what, 0), most);
            due("34: the least, " + what, x.law(what, was[what]), 0);
        }
        bounded("34: what", 0, 4, -2, n -> x.law(n, 1));
        due("34: 2 is none for Sundays", x.law(3, 2), -2);
        due("34: 2 is none for loads", x.law(4, 2), -2);
    }

    // What was paid.

    private static void paidAndSure() {
        ShortcutDuty x = Check.told(LAND);
        for (int duty : new int[] {-1, LEAST}) {
            due("35: the DUTY is below 0", x.paid(0, duty), -2);
            due("36: the DUTY is below 0", x.sure(0, duty), -2);
        }
        due("35: the greatest DUTY", x.paid(0, MOST), 0);
        due("36: the greatest DUTY", x.sure(0, MOST), NONE);
        due("35: the least DUTY", x.paid(0, 0), 3);
        due("36: the least DUTY", x.sure(0, 0), 0);
        ShortcutDuty y = Check.told(HEAD + "walk 0 load 1 on 0 from 0 by 1; walk 0 load 1 on 0 from 0 by 1 0;");
        due("35: no way", y.paid(0, 0), 0);
        due("36: no way", y.sure(0, 0), NONE);
        due("35: to itself, that PLACE alone", y.paid(1, 0), 1);
        due("36: to itself, no LANE", y.sure(1, 0), 0);
        due("35: to itself, a DUTY", y.paid(1, 1), 0);
        ShortcutDuty z = Check.told(GREAT);
        due("35: as much as can be", z.paid(9, 159489), 1);
        due("36: as much as can be", z.sure(9, 159489), 1);
        due("35: one more", z.paid(9, 159490), 0);
        due("36: one more", z.sure(9, 159490), NONE);
        due("36: six LANES", Check.told(WATCHED).sure(0, 174 * 99 * 9), 63);
        ShortcutDuty w = Check.told("kingdom places 5 days 1 rate 1 free 0 time 0; road 0 to 1 10; ford 0 to 1 4;"
                + "ford 2 to 3 30; ford 2 to 4 2; ford 4 to 3 2; walk 0 load 1 on 0 from 0 by 1;");
        due("25: two ways", w.ways(2, 3, 0), 2);
        due("36: of one way, behind a call that found more", w.sure(0, 6), 1);
        due("35: of one way, behind a call that found more", w.paid(0, 6), 1);
    }

    private static void ford() {
        ShortcutDuty x = Check.told(GREAT);
        bounded("37: SLOT", 0, 3, -2, x::ford);
        due("37: it has nothing", x.ford(3), -6);
        for (int n : new int[] {0, 9, 11, 60}) {
            x.row(3, 2, n);
            due("37: not as many, " + n, x.ford(3), -7);
        }
        x.row(3, 2, 10);
        due("37: as many, all can", x.ford(3), NONE);
        x.write(3, 9, 1);
        due("37: the last can't", x.ford(3), 9);
        x.write(3, 9, 159489);
        due("37: the last can", x.ford(3), NONE);
        x.write(3, 0, -1);
        due("37: below 0 can't", x.ford(3), 0);
        x.row(3, 3, 10);
        for (long v : new long[] {Long.MIN_VALUE, Long.MAX_VALUE, 159489L + (1L << 32), 1L << 32, -1L << 32}) {
            x.write(3, 0, v);
            due("37: can't, " + v, x.ford(3), 0);
        }
        ShortcutDuty y = Check.told(HEAD);
        due("37: it has nothing, no WALKS", y.ford(0), -6);
        y.row(0, 0, 0);
        due("37: a row of none for no WALKS", y.ford(0), NONE);
        y.row(0, 0, 1);
        due("37: not as many, no WALKS", y.ford(0), -7);
    }

    private static void must() {
        ShortcutDuty x = Check.told(LAND);
        bounded("38: a", 0, 3, -2, n -> x.must(n, 1, 0, 0));
        bounded("38: b", 0, 3, -2, n -> x.must(1, n, 0, 0));
        for (int p = -1; p <= 4; p++) {
            due("38: one twice, " + p, x.must(p, p, 0, 0), -2);
        }
        due("38: the DUTY is below 0", x.must(0, 1, 0, -1), -2);
        due("38: the DUTY is below 0", x.must(0, 1, 0, LEAST), -2);
        due("38: the greatest DUTY", x.must(0, 1, 0, MOST), NONE);
        ShortcutDuty y = Check.told("kingdom places 7 days 30 rate 1 free 0 time 0;" + CHAIN
                + "walk 0 load 1 on 29 from 0 by 6;");
        due("38: the shortest", y.must(0, 6, 0, 179), 1);
        due("38: none is so short", y.must(0, 6, 0, 180), NONE);
        due("38: the longest", y.must(6, 0, 0, 81), 99);
        due("38: none is so long", y.must(6, 0, 0, 80), NONE);
        due("38: shorter than the ROAD", y.must(0, 1, 0, 1), 29);
        due("38: as long as the ROAD is not taken", y.must(0, 1, 0, 0), NONE);
        due("38: in thought", y.count(3), 0);
        ShortcutDuty z = Check.told("kingdom places 2 days 1 rate 1 free 0 time 0; road 0 to 1 30;"
                + "boat 0 to 1 2;".repeat(8) + "walk 0 load 1 on 0 from 0 by 1; walk 0 load 1 on 0 from 0 by 1 0;");
        due("38: behind eight LANES", z.must(0, 1, 0, 29), 1);
        due("38: told last, not in place of one as long", z.must(0, 1, 0, 28), NONE);
        due("38: to itself there is no step", z.must(0, 1, 1, 0), NONE);
    }

    // Draws.

    private static int seenBy(int watched, int seed) {
        return Check.told(HEAD + "ford 0 to 1 2 watched " + watched + "; walk 0 load 1 on 0 from 0 by 1;").seen(seed, 0);
    }

    private static void seen() {
        ShortcutDuty x = Check.told(LAND);
        bounded("39: seed", 0, 2000000000, -2, n -> x.seen(n, 0));
        due("39: no such seed ahead of not lawful", x.seen(-1, 1), -2);
        due("39: draw 38 is not below 38", seenBy(38, 1), 0);
        due("39: draw 38 is below 39", seenBy(39, 1), 1);
        due("39: draw 0 is below 1", seenBy(1, 0), 1);
        due("39: none is below 0", seenBy(0, 0), 0);
        for (int seed = 0; seed <= 2000000000 && seed >= 0; seed += 40000000) {
            due("39: all are below 100", seenBy(100, seed), 1);
            long draw = draw(BigInteger.valueOf(seed)).shiftRight(16).longValue() % 100;
            due("39: as low as the draw", seenBy((int) draw, seed), 0);
            due("39: one above the draw", seenBy((int) draw + 1, seed), 1);
        }
        // Six steps, the last alone watched enough: the sixth draw wraps five times.
        BigInteger state = BigInteger.valueOf(2000000000);
        int least = 100;
        for (int i = 0; i < 6; i++) {
            state = draw(state);
            least = Math.min(least, (int) (state.shiftRight(16).longValue() % 100));
        }
        String six = "; walk 0 load 1 on 0 from 0 by 1 0 1 0 1 0;";
        due("39: six draws, none below", Check.told(HEAD + "ford 0 to 1 2 watched " + least + six).seen(2000000000, 0), 0);
        due("39: six draws, one below", Check.told(HEAD + "ford 0 to 1 2 watched " + (least + 1) + six).seen(2000000000, 0), 1);
    }

    /** What x becomes. */
    private static BigInteger draw(BigInteger x) {
        return x.multiply(BigInteger.valueOf(1103515245)).add(BigInteger.valueOf(12345)).mod(BigInteger.ONE.shiftLeft(31));
    }

    private static void caught() {
        String text = PROBE.replace("ford 0 to 1 1", "ford 0 to 1 1 watched 100");
        ShortcutDuty x = Check.told(text);
        bounded("40: seed", 0, 2000000000, -2, n -> x.caught(n, 1));
        bounded("40: n", 1, 20, -2, n -> x.caught(0, n));
        due("40: one", x.caught(2000000000, 1), 29);
        due("40: twenty, the last from a seed above 2,000,000,000", x.caught(2000000000, 20), 580);
        due("40: no WALKS", Check.told(HEAD).caught(0, 20), 0);
        due("40: none goes by the ford on a flood", Check.told(text + "flood on 0;").caught(0, 20), 0);
        due("40: one that is not lawful", Check.told(LAND.replace("flood", "flood on 0; flood")).caught(4, 1), 24);
        ShortcutDuty y = Check.told(PROBE.replace("ford 0 to 1 1", "ford 0 to 1 1 watched 37"));
        for (int seed : new int[] {0, 7, 1999999990, 2000000000}) {
            int sum = 0;
            for (int n = 1; n <= 20; n++) {
                long draw = draw(BigInteger.valueOf(seed + n - 1L)).shiftRight(16).longValue() % 100;
                sum += draw < 37 ? 29 : 0;
                due("40: from " + seed + " and on, " + n, y.caught(seed, n), sum);
            }
        }
        ShortcutDuty z = Check.told(GREAT.replace("lane 0 to 6 1 from 0 to 29", "ford 0 to 6 1 watched 100"));
        due("40: as much as can be", z.caught(0, 20), 31897800);
    }

    // Counts and images.

    private static void count() {
        ShortcutDuty x = Check.told(GREAT);
        int[] counts = {7, 30, 6, 1, 10, 0, 19, 0, 0};
        for (int what = 0; what <= 8; what++) {
            due("41: what " + what, x.count(what), counts[what]);
        }
        bounded("41: what", 0, 8, NONE, x::count);
        StringBuilder floods = new StringBuilder("kingdom places 2 days 30 rate 0 free 0 time 0;");
        for (int day = 0; day < 30; day++) {
            floods.append("flood on " + day + "; flood on " + day + ";");
        }
        ShortcutDuty y = Check.told(floods.toString());
        due("41: all DAYS with flood, each told twice", y.count(5), 30);
        due("41: LINES", y.count(6), 61);
        for (int slot = 0; slot < 4; slot++) {
            y.row(slot, slot, 0);
            y.row(slot, slot, 60);
            due("41: SLOTS that have a row", y.count(8), slot + 1);
        }
    }

    private static void keepAndBack() {
        ShortcutDuty x = Check.told(LAND);
        bounded("43: k, with nothing", 0, 2, -2, x::back);
        for (int k = 0; k <= 2; k++) {
            due("43: it has nothing", x.back(k), -6);
        }
        due("43: and nothing happens", x.takings(NONE), 24);
        bounded("42: k", 0, 2, -2, x::keep);
        due("43: that alone has nothing that was not kept", x.back(1), -6);
        x.law(0, 9);
        x.keep(2);
        Check.tell(x, HEAD);
        x.keep(1);
        due("43: back", x.back(0), 0);
        due("43: the first image", x.takings(NONE), 24);
        due("43: back", x.back(2), 0);
        due("43: the last image, kept anew", x.takings(NONE), 72);
        due("43: back", x.back(1), 0);
        due("43: the middle image", x.count(6), 1);
        x.kingdom();
        due("42: none is kept too", x.keep(0), 0);
        due("43: back", x.back(2), 0);
        due("43: back to none", x.back(0), 0);
        due("43: there is none then", x.takings(NONE), -2);
        Check.tell(x, Check.SMALL);
        x.keep(0);
        x.back(2);
        x.law(1, 99);
        due("43: an image stays as it was kept", x.back(2), 0);
        due("43: an image stays as it was kept", x.takings(NONE), 72);
        x.back(0);
        due("43: nothing of the other is left", x.count(3), 1);
        due("43: nothing of the other is left", x.count(5), 0);
        due("43: nothing of the other is left", x.road(0, 2), 10);
    }

    // Slots.

    private static void row() {
        ShortcutDuty x = Check.told(Check.SMALL);
        bounded("44: SLOT", 0, 3, -2, n -> x.row(n, 0, 1));
        bounded("44: WIDTH", 0, 3, -2, n -> x.row(0, n, 1));
        for (int n : new int[] {0, 1, 59, 60}) {
            due("44: so many", x.row(1, 2, n), 0);
            due("44: the last of " + n, x.write(1, n - 1, 1), n == 0 ? -7 : 0);
            due("44: behind the last of " + n, x.write(1, n, 1), -7);
        }
        for (int n : new int[] {61, MOST}) {
            due("44: above 60", x.row(1, 0, n), -2);
            due("44: and the SLOT stays", x.write(1, 59, 1), 0);
        }
        for (int n : new int[] {-1, LEAST}) {
            due("44: below 0", x.row(1, 0, n), -3);
            due("44: and the SLOT stays", x.write(1, 59, 1), 0);
            due("44: no such SLOT ahead of below 0", x.row(4, 0, n), -2);
            due("44: no such WIDTH ahead of below 0", x.row(0, 4, n), -2);
        }
        ShortcutDuty y = Check.told(Check.SMALL);
        due("44: below 0 of one that has nothing", y.row(2, 0, -1), -3);
        due("44: it still has nothing", y.write(2, 0, 1), -6);
        due("44: above 60 of one that has nothing", y.row(2, 0, 61), -2);
        due("44: it still has nothing", y.count(8), 0);
        y.row(2, 1, 1);
        y.write(2, 0, 1);
        due("44: 1 can't be owed", y.ford(2), 0);
        due("44: below 0", y.row(2, 3, -1), -3);
        due("44: the numbers stay", y.ford(2), 0);
        y.row(3, 1, 1);
        due("44: the WIDTH stays", y.paste(2, 0, 3, 0, 1), 0);
        due("44: in place of another one", y.row(2, 1, 1), 0);
        due("44: all 0", y.ford(2), NONE);
    }

    private static void write() {
        ShortcutDuty x = Check.told(Check.SMALL);
        due("45: it has nothing", x.write(0, 0, 1), -6);
        due("45: it has nothing ahead of no such number", x.write(3, -1, 1), -6);
        for (int width = 0; width <= 3; width++) {
            x.row(width, width, 60);
        }
        bounded("45: SLOT", 0, 3, -2, n -> x.write(n, 0, 1));
        bounded("45: number", 0, 59, -7, n -> x.write(0, n, 1));
        bounded("45: number", 0, 59, -7, n -> x.write(3, n, Long.MIN_VALUE));
        due("45: no such SLOT ahead of no such number", x.write(4, 60, 1), -2);
        x.row(0, 0, 0);
        due("45: a row of none", x.write(0, 0, 1), -7);
        x.row(0, 0, 1);
        due("45: a row of one", x.write(0, 0, 1), 0);
        due("45: a row of one", x.write(0, 1, 1), -7);
    }

    /** Whether a number of a width is read as one that can be owed. */
    private static boolean isRead(ShortcutDuty x, int width, long v) {
        x.row(0, width, 1);
        x.write(0, 0, v);
        return x.ford(0) == NONE;
    }

    private static void cutTo(ShortcutDuty x, long v, boolean... owed) {
        for (int width = 0; width <= 3; width++) {
            due("45: " + v + " cut to WIDTH " + width, isRead(x, width, v) ? 1 : 0, owed[width] ? 1 : 0);
        }
    }

    private static void writeIsCut() {
        ShortcutDuty x = Check.told("kingdom places 4 days 1 rate 1 free 0 time 0; road 0 to 1 30; road 1 to 2 30;"
                + "road 2 to 3 30; ford 0 to 1 1; ford 1 to 2 1; ford 2 to 3 1; walk 0 load 8 on 0 from 0 by 1 2 3;");
        // 87 is saved by the one way; so (87 - free) times rate is owed, times 8 if loads count.
        x.law(1, 23);
        cutTo(x, 64, true, true, true, true);
        cutTo(x, 64 + 256, true, false, false, false);
        cutTo(x, 64 - 256, true, false, false, false);
        cutTo(x, 64 + 65536, true, true, false, false);
        cutTo(x, 64 - 65536, true, true, false, false);
        cutTo(x, 64 + (1L << 32), true, true, true, false);
        cutTo(x, 64 - (1L << 32), true, true, true, false);
        cutTo(x, Long.MIN_VALUE + 64, true, true, true, false);
        cutTo(x, -64, false, false, false, false);
        x.law(0, 2);
        cutTo(x, 128, false, true, true, true);
        cutTo(x, -128, false, false, false, false);
        x.law(0, 64);
        x.law(4, 1);
        cutTo(x, 32768, false, false, true, true);
        x.law(0, 0);
        cutTo(x, 0, true, true, true, true);
        cutTo(x, 256, true, false, false, false);
        cutTo(x, 65536, true, true, false, false);
        cutTo(x, 1L << 32, true, true, true, false);
        cutTo(x, Long.MIN_VALUE, true, true, true, false);
        cutTo(x, Long.MAX_VALUE, false, false, false, false);
        x.law(4, 0);
        x.law(0, 1);
        x.law(1, 0);
        cutTo(x, 87, true, true, true, true);
        x.law(1, 23);
        x.law(0, 1);
        cutTo(x, 63, false, false, false, false);
    }

    /** Whether a number of a slot is v (0 .. 29), by what is owed in PROBE; slot 3 is used up. */
    private static boolean isAt(ShortcutDuty x, int width, int slot, int i, int v) {
        x.law(1, 29 - v);
        x.row(3, width, 1);
        x.paste(slot, i, 3, 0, 1);
        return x.ford(3) == NONE;
    }

    private static void pasteRefused() {
        ShortcutDuty x = Check.told(PROBE);
        due("46: no such SLOT ahead of nothing there", x.paste(4, 0, 0, 0, 0), -2);
        due("46: one has nothing", x.paste(0, 0, 0, 0, 0), -6);
        x.row(0, 1, 5);
        x.row(1, 1, 60);
        x.row(2, 2, 5);
        bounded("46: SLOT", 0, 2, -2, n -> n == 3 ? -2 : x.paste(n, 0, n, 0, 0));
        bounded("46: the other SLOT", 0, 1, -2, n -> n == 2 ? -2 : x.paste(0, 0, n, 0, 0));
        due("46: one has nothing", x.paste(3, 0, 0, 0, 0), -6);
        due("46: the other has nothing", x.paste(0, 0, 3, 0, 0), -6);
        due("46: nothing there ahead of beyond", x.paste(3, -1, 0, 0, 0), -6);
        due("46: not of one WIDTH", x.paste(0, 0, 2, 0, 0), -8);
        due("46: WIDTH ahead of beyond", x.paste(0, -1, 2, 9, -1), -8);
        x.write(0, 0, 7);
        x.write(1, 4, 9);
        // From, to, how many: rows of 5 and of 60.
        int[][] beyond = {{1, 0, 5}, {5, 0, 1}, {0, 0, 6}, {0, 56, 5}, {0, 60, 1}, {-1, 0, 1}, {0, -1, 1}, {0, 0, -1},
            {LEAST, 0, 1}, {0, LEAST, 1}, {0, 0, LEAST}, {MOST, 0, 1}, {0, MOST, 1}, {0, 0, MOST}, {1, 1, MOST},
            {MOST, MOST, MOST}, {5, 0, -1}, {6, 0, 0}, {0, 61, 0}, {MOST, 0, 0}, {-1, 0, 0}, {0, -1, 0}};
        for (int[] of : beyond) {
            due("46: " + Arrays.toString(of), x.paste(0, of[0], 1, of[1], of[2]), -7);
        }
        due("46: none at both ends", x.paste(0, 5, 1, 60, 0), 0);
        due("46: none of a row of none", x.row(3, 1, 0) + x.paste(3, 0, 3, 0, 0), 0);
        due("46: one of a row of none", x.paste(3, 0, 0, 0, 1), -7);
        due("46: one to a row of none", x.paste(0, 0, 3, 0, 1), -7);
        due("46: nothing happened", isAt(x, 1, 0, 0, 7) ? 1 : 0, 1);
        due("46: nothing happened", isAt(x, 1, 1, 0, 0) ? 1 : 0, 1);
    }

    private static void pasteFull() {
        for (int width = 0; width <= 3; width++) {
            ShortcutDuty x = Check.told(PROBE);
            x.row(0, width, 60);
            x.row(1, width, 60);
            x.write(0, 0, 3);
            x.write(0, 59, 5);
            due("46: a whole row, WIDTH " + width, x.paste(0, 0, 1, 0, 60), 0);
            due("46: its first", isAt(x, width, 1, 0, 3) ? 1 : 0, 1);
            due("46: its second", isAt(x, width, 1, 1, 0) ? 1 : 0, 1);
            due("46: its last", isAt(x, width, 1, 59, 5) ? 1 : 0, 1);
            due("46: the last to the first", x.paste(0, 59, 1, 0, 1), 0);
            due("46: the first", isAt(x, width, 1, 0, 5) ? 1 : 0, 1);
            due("46: the one it came from stays", isAt(x, width, 0, 59, 5) ? 1 : 0, 1);
            due("46: the other one's next stays", isAt(x, width, 1, 1, 0) ? 1 : 0, 1);
            due("46: all but one", x.paste(0, 1, 1, 0, 59), 0);
            due("46: behind them it stays", isAt(x, width, 1, 59, 5) ? 1 : 0, 1);
            due("46: the last of them", isAt(x, width, 1, 58, 5) ? 1 : 0, 1);
        }
    }

    private static void pasteOverItself() {
        int[][] moves = {{0, 1, 4}, {1, 0, 4}, {0, 0, 5}, {0, 2, 3}, {2, 0, 3}, {1, 2, 2}, {3, 1, 2}};
        for (int[] move : moves) {
            ShortcutDuty x = Check.told(PROBE);
            x.row(0, 2, 5);
            int[] want = {11, 12, 13, 14, 15};
            for (int i = 0; i < 5; i++) {
                x.write(0, i, want[i]);
            }
            due("46: its own, " + Arrays.toString(move), x.paste(0, move[0], 0, move[1], move[2]), 0);
            System.arraycopy(want.clone(), move[0], want, move[1], move[2]);
            for (int i = 0; i < 5; i++) {
                due("46: as they were, " + Arrays.toString(move) + " at " + i, isAt(x, 2, 0, i, want[i]) ? 1 : 0, 1);
            }
        }
    }

    // Refused calls.

    private static long[] state(ShortcutDuty x, boolean withoutTape) {
        StringBuilder all = new StringBuilder();
        for (int what = 0; what <= 8; what++) {
            all.append(withoutTape && what == 7 ? 0 : x.count(what)).append(' ');
        }
        for (int walk = 0; walk < 4; walk++) {
            for (int what = 0; what <= 5; what++) {
                all.append(x.walk(walk, what)).append(' ');
            }
            all.append(x.length(walk) + " " + x.duty(walk) + " " + x.lanes(walk) + " " + x.chance(walk, 1) + " ");
        }
        for (int slot = 0; slot < 4; slot++) {
            all.append(x.ford(slot) + " " + x.open(slot, 6) + " " + x.road(0, slot) + " " + x.all(slot) + " ");
        }
        all.append(x.law(4, 0) + " ");
        return Arrays.stream(all.toString().split(" ")).mapToLong(Long::parseLong).toArray();
    }

    private static ShortcutDuty prepared() {
        ShortcutDuty x = new ShortcutDuty();
        Check.tell(x, Check.SMALL);
        x.keep(1);
        Check.tell(x, LAND);
        x.row(0, 0, 4);
        x.write(0, 3, 9);
        x.row(1, 0, 4);
        x.write(1, 2, 5);
        x.row(2, 3, 0);
        x.feed(0, 0, 0, 0, 0);
        return x;
    }

    private static void unchanged(String call, Consumer<ShortcutDuty> refused, boolean withoutTape) {
        ShortcutDuty x = prepared();
        long[] before = state(x, withoutTape);
        if (withoutTape) {
            x.end(0);
        }
        refused.accept(x);
        due(call + ": all stays", Arrays.equals(before, state(x, withoutTape)) ? 1 : 0, 1);
        x.back(1);
        due(call + ": the images stay", x.count(6), 5);
    }

    private static void refusedCallsChangeNothing() {
        unchanged("3: end", x -> due("3", x.end(21), NONE), false);
        unchanged("3: end", x -> due("3", x.end(-1), NONE), false);
        unchanged("34: law", x -> due("34", x.law(0, 100), -2), false);
        unchanged("34: law", x -> due("34", x.law(3, 2), -2), false);
        unchanged("34: law", x -> due("34", x.law(5, 0), -2), false);
        unchanged("42: keep", x -> due("42", x.keep(3), -2), false);
        unchanged("43: back", x -> due("43", x.back(0), -6), false);
        unchanged("43: back", x -> due("43", x.back(3), -2), false);
        unchanged("44: row", x -> due("44", x.row(0, 0, -1), -3), false);
        unchanged("44: row", x -> due("44", x.row(0, 0, 61), -2), false);
        unchanged("44: row", x -> due("44", x.row(0, 4, 4), -2), false);
        unchanged("45: write", x -> due("45", x.write(0, 4, 1), -7), false);
        unchanged("45: write", x -> due("45", x.write(3, 0, 1), -6), false);
        unchanged("46: paste", x -> due("46", x.paste(0, 1, 1, 0, 4), -7), false);
        unchanged("46: paste", x -> due("46", x.paste(0, 3, 1, 3, 2), -7), false);
        unchanged("46: paste", x -> due("46", x.paste(0, 0, 2, 0, 0), -8), false);
        unchanged("27 to 33, 38: in thought", x -> {
            x.lane(0, 3, 1, 1);
            x.help(1);
            x.bend(0, 99, 0);
            x.duke(99);
            x.by(99, 0);
            x.rate(1);
            x.must(0, 3, 1, 36);
            x.watchers(1);
            x.caught(0, 20);
        }, false);
    }
}
