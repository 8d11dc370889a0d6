import java.nio.charset.StandardCharsets;
import java.util.ArrayList;
import java.util.Arrays;
import java.util.Collections;
import java.util.List;
import java.util.Random;

/** Random texts with some tokens changed: kingdom() and fault() answer as the model, and the walks are the same. */
public final class TextModelTest {
    private static final Check CHECK = new Check();
    private static final int TEXTS = 20000;
    private static final String[] TOKENS = ("kingdom places days rate free time road to lane from watched ford boat flood"
            + " on walk load by law sunday light ; 0 1 2 3 4 5 6 7 9 10 29 30 31 99 100 101 @ - \t").split(" ");

    private final Random random;
    private final int places;
    private final int days;

    private TextModelTest(long seed) {
        random = new Random(seed);
        places = between(2, 7);
        days = between(1, 30);
    }

    public static void main(String[] args) {
        int texts = args.length > 0 ? Integer.parseInt(args[0]) : TEXTS;
        for (int seed = 0; seed < texts; seed++) {
            compare(new TextModelTest(seed).text());
        }
        CHECK.close("TextModelTest");
    }

    private static void compare(String text) {
        ShortcutDuty real = new ShortcutDuty();
        Model model = new Model();
        byte[] bytes = text.getBytes(StandardCharsets.ISO_8859_1);
        int[] words = Check.words(bytes);
        for (int i = 0; i < words.length; i += 5) {
            real.feed(words[i], words[i + 1], words[i + 2], words[i + 3], words[i + 4]);
            model.feed(words[i], words[i + 1], words[i + 2], words[i + 3], words[i + 4]);
        }
        real.end(bytes.length);
        model.end(bytes.length);
        CHECK.due("kingdom of " + text, real.kingdom(), model.kingdom());
        CHECK.due("fault of " + text, real.fault(0), model.fault(0));
        CHECK.due("its place in " + text, real.fault(1), model.fault(1));
        for (int what = 0; what <= 8; what++) {
            CHECK.due("count " + what + " of " + text, real.count(what), model.count(what));
        }
        for (int walk = 0; walk < model.count(4); walk++) {
            CHECK.due("from in walk " + walk + " of " + text, real.walk(walk, 3), model.walk(walk, 3));
            CHECK.due("steps of walk " + walk + " of " + text, real.steps(walk), model.steps(walk));
            CHECK.due("lanes of walk " + walk + " of " + text, real.lanes(walk), model.lanes(walk));
            CHECK.due("hope of walk " + walk + " of " + text, real.hope(walk, 0), model.hope(walk, 0));
        }
    }

    private int between(int least, int most) {
        return least + random.nextInt(most - least + 1);
    }

    private String text() {
        List<String> tokens = new ArrayList<>(List.of("kingdom", "places", "" + places, "days", "" + days, "rate",
                "" + between(0, 99), "free", "" + between(0, 99), "time", "" + between(0, 99), ";"));
        for (int i = between(0, random.nextInt(4) == 0 ? 45 : 8); i > 0; i--) {
            tokens.addAll(Arrays.asList(line().split(" ")));
            tokens.add(";");
        }
        for (int i = random.nextInt(3); i > 0 && !tokens.isEmpty(); i--) {
            tokens = changed(tokens);
        }
        StringBuilder text = new StringBuilder();
        for (String token : tokens) {
            text.append(token).append(random.nextInt(30) == 0 ? "" : random.nextInt(8) == 0 ? "\n " : " ");
        }
        return text.substring(0, Math.min(2000, text.length()));
    }

    /** A line that is sound but for places that may be alike, a road told twice, a 7th place or a day too early. */
    private String line() {
        String pair = between(0, places - 1) + " to " + between(0, places - 1) + " " + between(1, 30);
        String watched = random.nextBoolean() ? " watched " + between(0, 100) : "";
        int first = between(0, days - 1);
        switch (random.nextInt(8)) {
            case 0:
                return "road " + pair;
            case 1:
                int last = between(random.nextInt(9) == 0 ? 0 : first, days - 1);
                return "lane " + pair + " from " + first + " to " + last + watched;
            case 2:
                return "ford " + pair + watched;
            case 3:
                return "boat " + pair;
            case 4:
                return "flood on " + first;
            case 5:
                return "law " + List.of("sunday", "free", "load", "light").get(random.nextInt(4));
            default:
                return walkLine();
        }
    }

    private String walkLine() {
        int at = between(0, places - 1);
        StringBuilder line = new StringBuilder("walk " + between(0, 4) + " load " + between(1, 9) + " on "
                + between(0, days - 1) + " from " + at + " by");
        for (int i = between(1, random.nextInt(10) == 0 ? 7 : 6); i > 0; i--) {
            at = random.nextInt(30) == 0 ? between(0, places) : (at + between(1, places - 1)) % places;
            line.append(' ').append(at);
        }
        return line.toString();
    }

    private List<String> changed(List<String> tokens) {
        List<String> more = new ArrayList<>(tokens);
        int at = random.nextInt(more.size());
        int other = random.nextInt(more.size());
        String token = TOKENS[random.nextInt(TOKENS.length)];
        switch (random.nextInt(6)) {
            case 0:
                more.remove(at);
                return more;
            case 1:
                more.add(at, token);
                return more;
            case 2:
                more.set(at, token);
                return more;
            case 3:
                more.add(at, more.get(other));
                return more;
            case 4:
                return more.subList(0, at);
            default:
                Collections.swap(more, at, other);
                return more;
        }
    }
}
