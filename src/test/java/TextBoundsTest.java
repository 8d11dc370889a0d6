/** The sentences of Terms I that name a bound: both its ends hold, and what lies beyond is a FAULT at its place. */
public final class TextBoundsTest {
    private static final Check CHECK = new Check();
    private static final String HEAD = Check.HEAD;

    public static void main(String[] args) {
        everyByte();
        blanks();
        longestTokens();
        numbersInTheHead();
        placesOfSmallAndGreat();
        daysOfSmallAndGreat();
        lengthsAndWatches();
        lanesFromDayToDay();
        walkersLoadsAndStops();
        asManyAsThereCanBe();
        firstLineAndNoOther();
        oneRoadBetweenTwo();
        laterLawsStrike();
        endsOfTexts();
        ofOnePlaceTheLeast();
        fullestTape();
        CHECK.close("TextBoundsTest");
    }

    private static void sound(String text, int lines) {
        ShortcutDuty x = new ShortcutDuty();
        CHECK.due("kingdom of " + text, Check.tell(x, text), lines);
        CHECK.due("no fault in " + text, x.fault(0), 0);
        CHECK.due("no place in " + text, x.fault(1), -1);
    }

    /** A text up to its fault's place, and the rest. */
    private static void faulty(String ahead, String rest, int code) {
        ShortcutDuty x = new ShortcutDuty();
        String text = ahead + rest;
        CHECK.due("kingdom of " + text, Check.tell(x, text), -4);
        CHECK.due("fault of " + text, x.fault(0), code);
        CHECK.due("place in " + text, x.fault(1), ahead.length());
        CHECK.due("lines of " + text, x.count(6), 0);
    }

    /** A number with bounds: its ends are sound, the next ones beyond are faults 2 at it. */
    private static void bounds(String ahead, int least, int most, String rest, int lines) {
        sound(ahead + least + rest, lines);
        sound(ahead + most + rest, lines);
        sound(ahead + "000" + most + rest, lines);
        if (least > 0) {
            faulty(ahead, (least - 1) + rest, 2);
        }
        faulty(ahead, (most + 1) + rest, 2);
        faulty(ahead, "10000000000" + rest, 2);
        faulty(ahead, "4294967296" + rest, 2);
        faulty(ahead, "4294967297" + rest, 2);
        faulty(ahead, "18446744073709551617" + rest, 2);
        faulty(ahead, "x" + rest, 1);
        faulty(ahead, ";", 1);
        faulty(ahead, "-1" + rest, 1);
        faulty(ahead, "", 1);
    }

    private static void everyByte() {
        for (int b = 0; b < 256; b++) {
            String sign = String.valueOf((char) b);
            boolean isBlank = b == 32 || b == 10;
            boolean isDigit = b >= 48 && b <= 57;
            if (isBlank) {
                sound(HEAD + sign, 1);
                sound(HEAD + "road 0 to 1 5" + sign + ";", 2);
                sound(HEAD + "road" + sign + "0 to 1 5;", 2);
            } else {
                faulty(HEAD, sign, 1);
                if (isDigit) {
                    faulty(HEAD + "road 0 to 1 ", "5" + sign + ";", 2);
                    sound(HEAD + "road 0 to 1 0" + sign + (b == 48 ? "1;" : ";"), 2);
                } else {
                    String ahead = HEAD + "road 0 to 1 5" + (b == 59 ? ";" : "");
                    faulty(ahead, sign + ";", 1);
                }
            }
            faulty(HEAD, "ro" + sign + "ad 0 to 1 5;", 1);
        }
    }

    private static void blanks() {
        sound("", 0);
        sound(" ", 0);
        sound("\n", 0);
        sound(" \n\n  \n", 0);
        sound("\n\n  " + HEAD + "  \n", 1);
        for (int b : new int[] {9, 11, 12, 13, 0, 127, 133, 160}) {
            faulty("  ", (char) b + HEAD, 1);
        }
    }

    private static void longestTokens() {
        sound("kingdom places4days7rate3free1time1;road0to1 5;lane0to1 5from0to6watched100;flood on3;", 4);
        faulty(HEAD, "roadroad 0 to 1 5;", 1);
        faulty(HEAD, "roa", 1);
        faulty(HEAD, "ro ad 0 to 1 5;", 1);
        faulty(HEAD + "road 0 to ", "15;", 2);
        faulty(HEAD + "road 0 ", "toto 1 5;", 1);
        sound(HEAD + "walk0load1on0from0by1 2 3;", 2);
        faulty(HEAD + "walk 0 load 1 on 0 from 0 by ", "123;", 2);
    }

    private static void numbersInTheHead() {
        bounds("kingdom places ", 2, 7, " days 7 rate 3 free 1 time 1;", 1);
        bounds("kingdom places 4 days ", 1, 30, " rate 3 free 1 time 1;", 1);
        bounds("kingdom places 4 days 7 rate ", 0, 99, " free 1 time 1;", 1);
        bounds("kingdom places 4 days 7 rate 3 free ", 0, 99, " time 1;", 1);
        bounds("kingdom places 4 days 7 rate 3 free 1 time ", 0, 99, ";", 1);
    }

    /** P: 0 .. places less 1, in the least kingdom and in the greatest. */
    private static void placesOfSmallAndGreat() {
        for (int places : new int[] {2, 7}) {
            String head = "kingdom places " + places + " days 7 rate 3 free 1 time 1;";
            for (String kind : new String[] {"road", "lane", "ford", "boat"}) {
                String days = kind.equals("lane") ? " from 0 to 6;" : ";";
                otherPlace(head + kind + " ", 1, places - 1, " to 0 5" + days, 2);
                otherPlace(head + kind + " 0 to ", 1, places - 1, " 5" + days, 2);
                faulty(head + kind + " 0 to ", "0 5" + days, 2);
                faulty(head + kind + " " + (places - 1) + " to ", (places - 1) + " 5" + days, 2);
                faulty(head + kind + " ", places + " to " + places + " 5" + days, 2);
            }
            otherPlace(head + "walk 0 load 1 on 0 from ", 1, places - 1, " by 0;", 2);
            otherPlace(head + "walk 0 load 1 on 0 from 0 by ", 1, places - 1, " 0;", 2);
            otherPlace(head + "walk 0 load 1 on 0 from 1 by 0 ", 1, places - 1, ";", 2);
        }
    }

    /** A place that is not 0, since the other one is. */
    private static void otherPlace(String ahead, int least, int most, String rest, int lines) {
        sound(ahead + least + rest, lines);
        sound(ahead + most + rest, lines);
        faulty(ahead, (most + 1) + rest, 2);
        faulty(ahead, "99999999999" + rest, 2);
        faulty(ahead, "x" + rest, 1);
        faulty(ahead, "", 1);
    }

    /** D: 0 .. days less 1, in the shortest kingdom and in the longest. */
    private static void daysOfSmallAndGreat() {
        for (int days : new int[] {1, 30}) {
            String head = "kingdom places 2 days " + days + " rate 3 free 1 time 1;";
            bounds(head + "flood on ", 0, days - 1, ";", 2);
            bounds(head + "walk 0 load 1 on ", 0, days - 1, " from 0 by 1;", 2);
            bounds(head + "lane 0 to 1 5 from ", 0, days - 1, " to " + (days - 1) + ";", 2);
            bounds(head + "lane 0 to 1 5 from 0 to ", 0, days - 1, ";", 2);
        }
    }

    private static void lengthsAndWatches() {
        bounds(HEAD + "road 0 to 1 ", 1, 30, ";", 2);
        bounds(HEAD + "lane 0 to 1 ", 1, 30, " from 0 to 0;", 2);
        bounds(HEAD + "ford 0 to 1 ", 1, 30, ";", 2);
        bounds(HEAD + "boat 0 to 1 ", 1, 30, ";", 2);
        bounds(HEAD + "lane 0 to 1 5 from 0 to 0 watched ", 0, 100, ";", 2);
        bounds(HEAD + "ford 0 to 1 5 watched ", 0, 100, ";", 2);
        faulty(HEAD + "boat 0 to 1 5 ", "watched 0;", 1);
        faulty(HEAD + "road 0 to 1 5 ", "watched 0;", 1);
        sound(HEAD + "lane 0 to 1 5 from 0 to 0; ford 0 to 1 5;", 3);
    }

    /** "to no less than from": the same day is enough. */
    private static void lanesFromDayToDay() {
        for (int day = 0; day < 7; day++) {
            bounds(HEAD + "lane 0 to 1 5 from " + day + " to ", day, 6, ";", 2);
        }
    }

    private static void walkersLoadsAndStops() {
        bounds(HEAD + "walk ", 0, 4, " load 1 on 0 from 0 by 1;", 2);
        bounds(HEAD + "walk 0 load ", 1, 9, " on 0 from 0 by 1;", 2);
        String ahead = HEAD + "walk 0 load 1 on 0 from 0 by ";
        faulty(ahead, ";", 1);
        faulty(ahead, "0;", 2);
        String stops = "";
        for (int steps = 1; steps <= 6; steps++) {
            stops += steps % 2 + " ";
            sound(ahead + stops + ";", 2);
            ShortcutDuty x = Check.told(ahead + stops + ";");
            CHECK.due("steps told", x.walk(0, 5), steps);
            faulty(ahead + stops, steps % 2 + ";", 2);
            faulty(ahead + stops, "4;", 2);
            faulty(ahead + stops, "", 1);
            faulty(ahead + stops, "by 2;", 1);
        }
        faulty(ahead + stops, "1;", 3);
        faulty(ahead + stops, "3", 3);
        faulty(ahead + stops, "0;", 2);
        faulty(ahead + stops, "4;", 2);
        faulty(ahead + stops, "99999999999;", 2);
        sound(HEAD + "walk 0 load 1 on 0 from 0 by 1 0 1 2 0;", 2);
    }

    private static void asManyAsThereCanBe() {
        String head = "kingdom places 7 days 1 rate 0 free 0 time 0;";
        StringBuilder text = new StringBuilder(head);
        int roads = 0;
        for (int a = 0; a < 7 && roads < 12; a++) {
            for (int b = a + 1; b < 7 && roads < 12; b++) {
                text.append("road " + a + " to " + b + " 1;");
                roads++;
                sound(text.toString(), 1 + roads);
            }
        }
        for (int lanes = 1; lanes <= 8; lanes++) {
            text.append(lanes % 3 == 0 ? "boat 0 to 1 1;" : lanes % 3 == 1 ? "ford 0 to 1 1;" : "lane 0 to 1 1 from 0 to 0;");
        }
        for (int walks = 1; walks <= 10; walks++) {
            text.append("walk 0 load 1 on 0 from 0 by 1;");
        }
        String full = text.toString();
        sound(full, 31);
        ShortcutDuty x = Check.told(full);
        CHECK.due("roads", x.count(2), 12);
        CHECK.due("lanes", x.count(3), 8);
        CHECK.due("walks", x.count(4), 10);
        for (String word : new String[] {"road", "lane", "ford", "boat", "walk"}) {
            faulty(full, word, 3);
            faulty(full + " ", word + " 0 to 1 1;", 3);
            faulty(full, word + "@", 3);
        }
        sound(full + "flood on 0; law free;", 33);
        faulty(full, "roads", 1);
        faulty(full, "kingdom", 1);
    }

    private static void firstLineAndNoOther() {
        for (String word : new String[] {"road", "lane", "ford", "boat", "flood", "walk", "law", "x", "kingdo", "kingdoms"}) {
            faulty("", word + " 0 to 1 5;", 1);
            faulty(" \n", word, 1);
        }
        faulty("", ";", 1);
        faulty("", ";" + HEAD, 1);
        faulty("", "0", 1);
        faulty(HEAD, HEAD, 1);
        faulty(HEAD + "law free; ", "kingdom", 1);
        faulty(HEAD, ";", 1);
        faulty(HEAD + "law free;", ";", 1);
    }

    private static void oneRoadBetweenTwo() {
        String one = HEAD + "road 2 to 3 5;";
        faulty(one + "road 2 to ", "3 5;", 2);
        faulty(one + "road 3 to ", "2 5;", 2);
        sound(one + "road 2 to 1 5; road 3 to 1 5; road 0 to 2 5; boat 2 to 3 5; boat 3 to 2 5; ford 2 to 3 5;", 8);
        sound(HEAD + "boat 2 to 3 5; road 3 to 2 5;", 3);
    }

    /** "Sundays are due, loads do not count without; a later one strikes". */
    private static void laterLawsStrike() {
        String[] laws = {"", "law free;", "law free; law sunday;", "law sunday; law free;", "law sunday;"};
        int[] due = {1, 0, 1, 0, 1};
        for (int i = 0; i < laws.length; i++) {
            CHECK.due("Sundays due by " + laws[i], Check.told(HEAD + laws[i]).law(3, 0), due[i]);
            CHECK.due("loads by " + laws[i], Check.told(HEAD + laws[i]).law(4, 0), 0);
        }
        String[] loads = {"law load;", "law load; law light;", "law light; law load;", "law light;"};
        int[] count = {1, 0, 1, 0};
        for (int i = 0; i < loads.length; i++) {
            CHECK.due("loads count by " + loads[i], Check.told(HEAD + loads[i]).law(4, 0), count[i]);
            CHECK.due("Sundays by " + loads[i], Check.told(HEAD + loads[i]).law(3, 0), 1);
        }
        for (String word : new String[] {"sundays", "sunda", "fre", "loads", "lights", "0", ";", "", "rate"}) {
            faulty(HEAD + "law ", word, 1);
        }
    }

    /** "(a TOKEN's first byte; the end's)": the end lies behind the last byte, blanks too. */
    private static void endsOfTexts() {
        String text = HEAD + "lane 0 to 1 5 from 0 to 6 watched 50";
        for (int n = HEAD.length() + 1; n <= text.length(); n++) {
            String cut = text.substring(0, n);
            boolean isCutWord = Character.isLetter(text.charAt(n - 1)) && n < text.length()
                    && Character.isLetter(text.charAt(n));
            if (!isCutWord) {
                faulty(cut, "", 1);
                faulty(cut + " \n ", "", 1);
            }
        }
        faulty(HEAD + "lane 0 to 1 5 ", "fro", 1);
        sound(text + ";", 2);
    }

    private static void ofOnePlaceTheLeast() {
        String six = HEAD + "walk 0 load 1 on 0 from 0 by 1 0 1 0 1 0 ";
        faulty(six, "0", 2);
        faulty(six, "@", 1);
        faulty(HEAD + "road 0 to ", "9 9 9", 2);
        faulty(HEAD + "road ", "9 to 9 99", 2);
        faulty(HEAD + "lane 0 to 1 5 from 6 to ", "5 watched 101", 2);
    }

    private static void fullestTape() {
        StringBuilder text = new StringBuilder(HEAD + "law free;");
        while (text.length() < 1999) {
            text.append(' ');
        }
        CHECK.due("all 2,000 bytes", Check.tell(new ShortcutDuty(), text + " "), 2);
        ShortcutDuty x = new ShortcutDuty();
        CHECK.due("a fault in the last of 2,000 bytes", Check.tell(x, text + "@"), -4);
        CHECK.due("its place", x.fault(1), 1999);
        CHECK.due("an end behind 2,000 bytes", Check.tell(x, text.substring(0, 1996) + "road"), -4);
        CHECK.due("its code", x.fault(0), 1);
        CHECK.due("its place", x.fault(1), 2000);
        StringBuilder digits = new StringBuilder(HEAD + "road 0 to 1 ");
        while (digits.length() < 1998) {
            digits.append('0');
        }
        CHECK.due("a number of very many digits", Check.tell(x, digits + "7;"), 2);
        CHECK.due("is 7", x.road(0, 1), 7);
        CHECK.due("one of many nines", Check.tell(x, digits.toString().replace("000", "999")), -4);
        CHECK.due("is out of its bounds", x.fault(0), 2);
    }
}
