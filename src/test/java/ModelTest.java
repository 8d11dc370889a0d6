import java.lang.reflect.Method;
import java.lang.reflect.Modifier;
import java.nio.charset.StandardCharsets;
import java.util.ArrayList;
import java.util.Arrays;
import java.util.Comparator;
import java.util.List;
import java.util.Random;

/** Random runs of up to 512 calls, each answer compared with the model's. */
public final class ModelTest {
    private static final int RUNS = 150;
    private static final int CALLS = 512;

    private final Random random;
    private final ShortcutDuty real = new ShortcutDuty();
    private final Model model = new Model();
    private final Check check;
    private final StringBuilder story = new StringBuilder();
    private int calls = 0;

    private ModelTest(long seed, Check check) {
        this.random = new Random(seed);
        this.check = check;
    }

    public static void main(String[] args) throws Exception {
        Check check = new Check();
        int runs = args.length > 0 ? Integer.parseInt(args[0]) : RUNS;
        for (int run = 0; run < runs; run++) {
            new ModelTest(run, check).run(run);
        }
        check.close("ModelTest");
    }

    private static List<Method> face() {
        List<Method> face = new ArrayList<>();
        for (Method m : ShortcutDuty.class.getDeclaredMethods()) {
            if (Modifier.isPublic(m.getModifiers())) {
                face.add(m);
            }
        }
        face.sort(Comparator.comparing(Method::getName));
        return face;
    }

    private void run(int run) throws Exception {
        List<Method> face = face();
        int texts = 0;
        while (calls < CALLS) {
            if (calls == 0 || random.nextInt(120) == 0) {
                feed(run, texts++ < 2 ? text() : spoilt(text()));
            }
            Method method = face.get(random.nextInt(face.size()));
            boolean rare = List.of("kingdom", "end", "feed", "back").contains(method.getName());
            if (!rare || random.nextInt(20) == 0) {
                call(run, method, arguments(method));
            }
        }
    }

    private void call(int run, Method method, Object... arguments) throws Exception {
        calls++;
        long got = ((Number) method.invoke(real, arguments)).longValue();
        Method same = Model.class.getDeclaredMethod(method.getName(), method.getParameterTypes());
        long want = ((Number) same.invoke(model, arguments)).longValue();
        String call = "run " + run + " call " + calls + ": " + method.getName() + Arrays.toString(arguments);
        check.due(got == want ? call : call + " behind " + story, got, want);
    }

    private void call(int run, String name, Object... arguments) throws Exception {
        for (Method m : face()) {
            if (m.getName().equals(name)) {
                call(run, m, arguments);
            }
        }
    }

    private void feed(int run, String text) throws Exception {
        byte[] bytes = text.getBytes(StandardCharsets.ISO_8859_1);
        int[] words = Check.words(bytes);
        call(run, "end", 0);
        for (int i = 0; i < words.length; i += 5) {
            call(run, "feed", words[i], words[i + 1], words[i + 2], words[i + 3], words[i + 4]);
        }
        call(run, "end", bytes.length);
        call(run, "kingdom");
        call(run, "fault", 0);
        call(run, "fault", 1);
        for (int what = 0; what <= 8; what++) {
            call(run, "count", what);
        }
        story.append('[').append(text).append(']');
    }

    private static final List<String> PLACES = List.of("road", "way", "joins", "shortest", "hidden", "best", "goes",
            "ways", "lane", "must");

    private Object[] arguments(Method method) {
        Class<?>[] types = method.getParameterTypes();
        Object[] arguments = new Object[types.length];
        for (int i = 0; i < types.length; i++) {
            arguments[i] = types[i] == long.class ? (Object) value() : (Object) argument(method.getName(), i);
        }
        return arguments;
    }

    private long value() {
        return random.nextInt(3) == 0 ? random.nextLong() : random.nextInt(40);
    }

    private int argument(String name, int i) {
        if (random.nextInt(40) == 0) {
            return List.of(-1, -2, Integer.MAX_VALUE, Integer.MIN_VALUE, 60, 61, 99, 100).get(random.nextInt(8));
        }
        if (PLACES.contains(name) && i < 2) {
            return random.nextInt(Math.max(2, model.count(0)));
        }
        int days = Math.max(1, model.count(1));
        int walks = model.count(4) + (random.nextInt(10) == 0 ? 1 : 0);
        return switch (name + i) {
            case "open1", "joins2", "shortest2", "hidden2", "best2", "goes2", "ways2" -> random.nextInt(days);
            case "takings0" -> random.nextInt(days + 1) - 1;
            case "walk0", "steps0", "length0", "saved0", "duty0", "lanes0", "chance0", "hope0", "paid0", "sure0",
                    "must2", "seen1" -> random.nextInt(walks + 1);
            case "open0" -> random.nextInt(9);
            case "best3", "goes3" -> 1 + random.nextInt(9);
            case "goes4", "way2" -> random.nextInt(8);
            case "lane2", "help0", "bend1", "duke0" -> 1 + random.nextInt(random.nextBoolean() ? 8 : 99);
            case "bend0" -> random.nextInt(12);
            case "by0", "by1" -> random.nextInt(100);
            case "law0" -> random.nextInt(5);
            case "law1" -> random.nextInt(random.nextBoolean() ? 2 : 12);
            case "rate0" -> 1 + random.nextInt(random.nextBoolean() ? 60 : 4000);
            case "paid1", "sure1", "must3" -> duty();
            case "seen0", "caught0" -> random.nextBoolean() ? random.nextInt(9) : random.nextInt(2000000001);
            case "caught1" -> random.nextInt(22);
            case "row2" -> random.nextBoolean() ? model.count(4) : random.nextInt(62);
            case "write1", "paste1", "paste3", "paste4" -> random.nextInt(8);
            case "end0" -> random.nextInt(40);
            case "feed0", "feed1", "feed2", "feed3", "feed4" -> random.nextInt();
            default -> random.nextInt(5);
        };
    }

    /** A duty that some walk has, or a small number. */
    private int duty() {
        int walk = random.nextInt(10);
        return model.duty(walk) >= 0 && random.nextBoolean() ? model.duty(walk) : random.nextInt(30);
    }

    private String text() {
        int places = random.nextInt(6) == 0 ? 6 + random.nextInt(2) : 2 + random.nextInt(4);
        int days = 1 + random.nextInt(random.nextBoolean() ? 30 : 8);
        StringBuilder text = new StringBuilder("kingdom places " + places + " days " + days + " rate "
                + random.nextInt(6) + " free " + random.nextInt(4) + " time " + random.nextInt(4) + ";");
        List<String> lines = new ArrayList<>();
        roads(lines, places);
        int longest = random.nextBoolean() ? 30 : 6;
        for (int i = random.nextInt(9); i > 0; i--) {
            lines.add(laneLine(places, days, longest));
        }
        for (int i = random.nextInt(4); i > 0; i--) {
            lines.add("flood on " + random.nextInt(days));
        }
        for (int i = random.nextInt(11); i > 0; i--) {
            lines.add(walkLine(places, days));
        }
        for (int i = random.nextInt(4); i > 0; i--) {
            lines.add("law " + List.of("sunday", "free", "load", "light").get(random.nextInt(4)));
        }
        java.util.Collections.shuffle(lines, random);
        for (String line : lines) {
            text.append(random.nextInt(4) == 0 ? " " : random.nextInt(4) == 0 ? "\n" : "").append(line).append(";");
        }
        return text.toString();
    }

    private void roads(List<String> lines, int places) {
        List<String> pairs = new ArrayList<>();
        for (int a = 0; a < places; a++) {
            for (int b = a + 1; b < places; b++) {
                int n = 1 + random.nextInt(random.nextBoolean() ? 30 : 8);
                pairs.add("road " + (random.nextBoolean() ? a + " to " + b : b + " to " + a) + " " + n);
            }
        }
        java.util.Collections.shuffle(pairs, random);
        lines.addAll(pairs.subList(0, random.nextInt(Math.min(12, pairs.size()) + 1)));
    }

    private String pair(int places) {
        int a = random.nextInt(places);
        int b = (a + 1 + random.nextInt(places - 1)) % places;
        return a + " to " + b;
    }

    private String laneLine(int places, int days, int longest) {
        String rest = pair(places) + " " + (1 + random.nextInt(longest));
        String watched = random.nextBoolean() ? "" : " watched " + random.nextInt(101);
        int kind = random.nextInt(5);
        if (kind == 0) {
            return "boat " + rest;
        }
        if (kind == 1) {
            return "ford " + rest + watched;
        }
        int first = random.nextInt(days);
        return "lane " + rest + " from " + first + " to " + (first + random.nextInt(days - first)) + watched;
    }

    private String walkLine(int places, int days) {
        int at = random.nextInt(places);
        StringBuilder line = new StringBuilder("walk " + random.nextInt(5) + " load " + (1 + random.nextInt(9))
                + " on " + random.nextInt(days) + " from " + at + " by");
        for (int i = 1 + random.nextInt(random.nextInt(3) == 0 ? 6 : 2); i > 0; i--) {
            at = (at + 1 + random.nextInt(places - 1)) % places;
            line.append(' ').append(at);
        }
        return line.toString();
    }

    /** The text with a token, a byte or its end changed, most often a fault. */
    private String spoilt(String text) {
        int at = random.nextInt(text.length());
        switch (random.nextInt(6)) {
            case 0:
                return text.substring(0, at);
            case 1:
                return text.substring(0, at) + (char) random.nextInt(256) + text.substring(at + 1);
            case 2:
                return text.substring(0, at) + random.nextInt(10) + text.substring(at);
            case 3:
                return text.substring(0, at) + text.substring(at + 1);
            case 4:
                int end = text.indexOf(';', at);
                return text + (end < 0 ? "" : text.substring(at, end + 1));
            default:
                return text;
        }
    }
}
