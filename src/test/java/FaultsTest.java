/** FAULTS: which one, and at which place (Terms I, promises 4 and 5). */
public final class FaultsTest {
    private static final Check CHECK = new Check();
    private static final String HEAD = Check.HEAD;

    /** A text up to its fault's place, and the rest. */
    private static void faulty(String ahead, String rest, int code) {
        ShortcutDuty x = new ShortcutDuty();
        String text = ahead + rest;
        CHECK.due("kingdom of " + text, Check.tell(x, text), -4);
        CHECK.due("fault of " + text, x.fault(0), code);
        CHECK.due("place in " + text, x.fault(1), ahead.length());
        CHECK.due("no kingdom by " + text, x.count(0), 0);
    }

    private static void behindHead(String ahead, String rest, int code) {
        faulty(HEAD + ahead, rest, code);
    }

    private static void sound(String text, int lines) {
        CHECK.due("kingdom of " + text, Check.tell(new ShortcutDuty(), text), lines);
    }

    public static void main(String[] args) {
        heads();
        tokens();
        links();
        lanes();
        floodsAndLaws();
        walks();
        tooMany();
        firstByPlace();
        CHECK.close("FaultsTest");
    }

    private static void heads() {
        faulty("", "road 0 to 1 5;", 1);
        faulty("", ";", 1);
        faulty("", "4", 1);
        faulty("kingdom", "", 1);
        faulty("kingdom ", "", 1);
        faulty("kingdom ", "days 4", 1);
        faulty("kingdom places ", "8 days 1", 2);
        faulty("kingdom places ", "1", 2);
        faulty("kingdom places ", "x", 1);
        faulty("kingdom places 4 ", ";", 1);
        faulty("kingdom places 4 days ", "31", 2);
        faulty("kingdom places 4 days ", "0", 2);
        faulty("kingdom places 4 days 7 rate ", "100", 2);
        faulty("kingdom places 4 days 7 rate 99 free ", "100", 2);
        faulty("kingdom places 4 days 7 rate 99 free 99 time ", "100", 2);
        faulty("kingdom places 4 days 7 rate 99 free 99 time ", "99999999999999999999999", 2);
        faulty("kingdom places 4 days 7 rate 99 free 99 time ", "4294967297;", 2);
        faulty("kingdom places 4 days 7 rate 0 free 0 time 0", "", 1);
        faulty(HEAD, "kingdom places 4 days 7 rate 3 free 1 time 1;", 1);
        sound("kingdom places 7 days 30 rate 99 free 99 time 99;", 1);
        sound("kingdom places 2 days 1 rate 0 free 0 time 0;", 1);
        sound("", 0);
    }

    private static void tokens() {
        behindHead("", "-", 1);
        behindHead("", "Road 0 to 1 5;", 1);
        behindHead(" ", "\t road 0 to 1 5;", 1);
        behindHead("", "\r\n", 1);
        behindHead("", ";", 1);
        behindHead("", "roads 0 to 1 5;", 1);
        behindHead("", "roa 0 to 1 5;", 1);
        behindHead("", "roadz 0 to 1 5;", 1);
        behindHead("", "aroad 0 to 1 5;", 1);
        behindHead("road", "` 0 to 1 5;", 1);
        behindHead("road", "{ 0 to 1 5;", 1);
        behindHead("road 0 to 1 5", ":;", 1);
        behindHead("road 0 to 1 5", "/;", 1);
        behindHead("", "" + (char) 0, 1);
        behindHead("", "" + (char) 255, 1);
        behindHead("", "" + (char) 233, 1);
        behindHead("road 0 to 1 ", "-5;", 1);
        behindHead("road 0 to 1 5", ".5;", 1);
        behindHead("road 0 to 1 5 ", "x;", 1);
        behindHead("road 0 to 1 5 ", "5;", 1);
        behindHead("road 0 to 1 5;\n  ", "7", 1);
        sound(HEAD + "road0to1 5;road00to0002\n007\n;", 3);
    }

    private static void links() {
        for (String kind : new String[] {"road ", "lane ", "ford ", "boat "}) {
            behindHead(kind, "", 1);
            behindHead(kind, "to 1 5;", 1);
            behindHead(kind, "4 to 4 5;", 2);
            behindHead(kind + "0 ", "1 5;", 1);
            behindHead(kind + "0 to ", "4 5;", 2);
            behindHead(kind + "0 to ", "0 5;", 2);
            behindHead(kind + "0 to ", ";", 1);
            behindHead(kind + "0 to 1 ", "0;", 2);
            behindHead(kind + "0 to 1 ", "31;", 2);
            behindHead(kind + "0 to 1 ", ";", 1);
        }
        behindHead("road 0 to 1 5; road 0 to ", "1 6;", 2);
        behindHead("road 0 to 1 5; road 1 to ", "0 6;", 2);
        behindHead("road 0 to 1 5 ", "watched 5;", 1);
        behindHead("boat 0 to 1 5 ", "watched 5;", 1);
        behindHead("boat 0 to 1 5 ", "from 0 to 1;", 1);
        sound(HEAD + "lane 0 to 1 30 from 0 to 6; boat 1 to 0 1; ford 0 to 1 5; road 1 to 0 1;", 5);
    }

    private static void lanes() {
        behindHead("lane 0 to 1 5", ";", 1);
        behindHead("lane 0 to 1 5 ", "watched 5;", 1);
        behindHead("lane 0 to 1 5 from ", "7 to 7;", 2);
        behindHead("lane 0 to 1 5 from 3 ", "4;", 1);
        behindHead("lane 0 to 1 5 from 3 to ", "2;", 2);
        behindHead("lane 0 to 1 5 from 3 to ", "7;", 2);
        behindHead("lane 0 to 1 5 from 3 to 3 ", "watch 5;", 1);
        behindHead("lane 0 to 1 5 from 3 to 3 watched ", "101;", 2);
        behindHead("lane 0 to 1 5 from 3 to 3 watched ", ";", 1);
        behindHead("lane 0 to 1 5 from 3 to 3 watched 5 ", "watched 5;", 1);
        behindHead("ford 0 to 1 5 ", "from 0 to 1;", 1);
        behindHead("ford 0 to 1 5 watched ", "101;", 2);
        behindHead("ford 0 to 1 5 watched 100", "", 1);
        sound(HEAD + "lane 0 to 1 5 from 3 to 3 watched 100; ford 0 to 1 5 watched 0;", 3);
    }

    private static void floodsAndLaws() {
        behindHead("flood ", "0;", 1);
        behindHead("flood on ", "7;", 2);
        behindHead("flood on ", ";", 1);
        behindHead("flood on 1 ", "2;", 1);
        behindHead("law", ";", 1);
        behindHead("law ", "sundays;", 1);
        behindHead("law ", "1;", 1);
        behindHead("law free", "", 1);
        behindHead("law free ", "load;", 1);
        sound(HEAD + "flood on 6; flood on 6; law sunday; law free; law load; law light;", 7);
    }

    private static void walks() {
        behindHead("walk ", "5 load 1 on 0 from 0 by 1;", 2);
        behindHead("walk 0 ", "1 on 0 from 0 by 1;", 1);
        behindHead("walk 0 load ", "0 on 0 from 0 by 1;", 2);
        behindHead("walk 0 load ", "10 on 0 from 0 by 1;", 2);
        behindHead("walk 0 load 1 ", "0 from 0 by 1;", 1);
        behindHead("walk 0 load 1 on ", "7 from 0 by 1;", 2);
        behindHead("walk 0 load 1 on 0 from ", "4 by 1;", 2);
        behindHead("walk 0 load 1 on 0 from 0 ", "to 1;", 1);
        behindHead("walk 0 load 1 on 0 from 0 by ", ";", 1);
        behindHead("walk 0 load 1 on 0 from 0 by ", "0;", 2);
        behindHead("walk 0 load 1 on 0 from 0 by ", "4;", 2);
        behindHead("walk 0 load 1 on 0 from 0 by 1 ", "1;", 2);
        behindHead("walk 0 load 1 on 0 from 0 by 1 ", "to 2;", 1);
        behindHead("walk 0 load 1 on 0 from 0 by 1", "", 1);
        behindHead("walk 0 load 1 on 0 from 0 by 1 0 1 0 1 0 ", "1;", 3);
        behindHead("walk 0 load 1 on 0 from 0 by 1 0 1 0 1 0 ", "0;", 2);
        behindHead("walk 0 load 1 on 0 from 0 by 1 0 1 0 1 0 ", "4;", 2);
        behindHead("walk 0 load 1 on 0 from 0 by 1 0 1 0 1 0 ", "x;", 1);
        sound(HEAD + "walk 4 load 9 on 6 from 3 by 1 0 1 0 1 0;", 2);
    }

    private static void tooMany() {
        StringBuilder roads = new StringBuilder("kingdom places 7 days 1 rate 0 free 0 time 0;");
        int told = 0;
        for (int a = 0; a < 7; a++) {
            for (int b = a + 1; b < 7 && told < 12; b++) {
                roads.append("road ").append(a).append(" to ").append(b).append(" 1;");
                told++;
            }
        }
        sound(roads.toString(), 13);
        faulty(roads.toString(), "road", 3);
        faulty(roads.toString(), "road 0 to 0 99", 3);
        StringBuilder lanes = new StringBuilder(HEAD);
        StringBuilder walks = new StringBuilder(HEAD);
        for (int i = 0; i < 8; i++) {
            String[] each = {"boat 0 to 1 1;", "ford 0 to 1 1;", "lane 0 to 1 1 from 0 to 0;"};
            lanes.append(each[i % 3]);
        }
        for (int i = 0; i < 10; i++) {
            walks.append("walk 0 load 1 on 0 from 0 by 1;");
        }
        sound(lanes.toString(), 9);
        faulty(lanes.toString(), "boat", 3);
        faulty(lanes.toString(), "ford 0 to 1 1;", 3);
        faulty(lanes.toString(), "lane 0 to 1 1 from 0 to 0;", 3);
        sound(walks.toString(), 11);
        faulty(walks.toString(), "walk", 3);
        faulty(walks.toString(), "walk 9", 3);
    }

    private static void firstByPlace() {
        behindHead("road 0 to ", "9 @;", 2);
        behindHead("road 0 to 1 ", "@ 99;", 1);
        behindHead("walk 0 load 1 on 0 from 0 by 1 ", "@", 1);
        behindHead("lane 0 to 1 5 from 5 to ", "4 watched 101", 2);
        StringBuilder most = new StringBuilder(HEAD);
        while (most.length() + 12 <= 2000) {
            most.append("flood on 03;");
        }
        sound(most.toString(), 1 + (most.length() - HEAD.length()) / 12);
    }
}
