import java.nio.charset.StandardCharsets;

/** What the tests share: feeding a text, and counting answers that are not as due. */
final class Check {
    static final String HEAD = "kingdom places 4 days 7 rate 3 free 1 time 1;";

    /** Roads 0-1-2-3 of 5 each; a watched lane, a watched ford, a boat. */
    static final String LAND = HEAD
            + "road 0 to 1 5; road 1 to 2 5; road 2 to 3 5;"
            + "lane 0 to 2 4 from 0 to 5 watched 50; ford 1 to 3 6 watched 20; boat 0 to 3 9;"
            + "flood on 2;"
            + "walk 0 load 2 on 0 from 0 by 2 3; walk 1 load 3 on 2 from 0 by 1 3;"
            + "walk 2 load 1 on 0 from 0 by 3; walk 0 load 1 on 6 from 0 by 1 3;";

    /** A lane of 4 where the road is 10, and one walk. */
    static final String SMALL = "kingdom places 3 days 1 rate 1 free 0 time 2;"
            + "road 0 to 1 5; road 1 to 2 5; lane 0 to 2 4 from 0 to 0; walk 0 load 3 on 0 from 0 by 2;";

    private int wrong = 0;
    private int checked = 0;

    void due(String call, long got, long want) {
        checked++;
        if (got != want) {
            wrong++;
            System.out.println(call + " answered " + got + ", due is " + want);
        }
    }

    /** Ends the test: exit code 1 if an answer was not as due. */
    void close(String test) {
        System.out.println(test + ": " + checked + " answers, " + wrong + " not as due");
        if (wrong != 0 || checked == 0) {
            System.exit(1);
        }
    }

    static int[] words(byte[] bytes) {
        int[] words = new int[(bytes.length + 19) / 20 * 5];
        for (int i = 0; i < words.length * 4; i++) {
            int b = i < bytes.length ? bytes[i] & 255 : ' ';
            words[i / 4] = words[i / 4] << 8 | b;
        }
        return words;
    }

    /** Puts a text behind the tape, which must be empty. */
    static void feed(ShortcutDuty x, String text) {
        byte[] bytes = text.getBytes(StandardCharsets.ISO_8859_1);
        int[] words = words(bytes);
        for (int i = 0; i < words.length; i += 5) {
            x.feed(words[i], words[i + 1], words[i + 2], words[i + 3], words[i + 4]);
        }
        x.end(bytes.length);
    }

    static int tell(ShortcutDuty x, String text) {
        feed(x, text);
        return x.kingdom();
    }

    static ShortcutDuty told(String text) {
        ShortcutDuty x = new ShortcutDuty();
        if (tell(x, text) < 0) {
            System.out.println("a test's kingdom is faulty: " + text);
            System.exit(1);
        }
        return x;
    }
}
