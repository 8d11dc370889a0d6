import java.lang.reflect.Method;
import java.lang.reflect.Modifier;
import java.util.ArrayList;
import java.util.Arrays;
import java.util.Comparator;
import java.util.List;

/** Every call with edges in each two of its arguments, compared with the model's answers. */
public final class EdgesTest {
    private static final Check CHECK = new Check();
    private static final int[] EDGES = {Integer.MIN_VALUE, -1, 0, 1, 2, 3, 4, 5, 6, 7, 8, 9, 10, 11, 12, 20, 21, 29, 30,
        59, 60, 61, 99, 100, 999999, 1000000, 2000000000, 2000000001, Integer.MAX_VALUE};
    private static final int[] FEWER = {Integer.MIN_VALUE, -1, 0, 1, 3, 4, 7, 60, 100, Integer.MAX_VALUE};
    private static final long[] LONGS = {Long.MIN_VALUE, -1, 0, 15, 128, 255, 32768, 1L << 32, Long.MAX_VALUE};
    private static final int CALLS = 400;

    private final String text;
    private ShortcutDuty real;
    private Model model;
    private int calls = CALLS;

    private EdgesTest(String text) {
        this.text = text;
    }

    public static void main(String[] args) throws Exception {
        String chain = "kingdom places 7 days 30 rate 99 free 0 time 99; road 0 to 1 30; road 1 to 2 30; road 2 to 3 30;"
                + "road 3 to 4 30; road 4 to 5 30; road 5 to 6 30; lane 0 to 6 1 from 0 to 29 watched 100;";
        StringBuilder dense = new StringBuilder("kingdom places 5 days 30 rate 9 free 1 time 3;");
        int told = 0;
        for (int a = 0; a < 5; a++) {
            for (int b = a + 1; b < 5; b++) {
                dense.append(told % 3 == 0 ? "ford " : "road ").append(a + " to " + b + " " + (1 + told * 7 % 9) + ";");
                told++;
            }
        }
        String[] texts = {"", Check.HEAD, Check.LAND, chain + "law load;" + "walk 4 load 9 on 29 from 0 by 6;".repeat(10),
            dense + "walk 0 load 5 on 3 from 0 by 3 4 1 2 4;"};
        for (String text : texts) {
            new EdgesTest(text).callAll();
        }
        CHECK.close("EdgesTest");
    }

    private void callAll() throws Exception {
        List<Method> face = new ArrayList<>(Arrays.asList(ShortcutDuty.class.getDeclaredMethods()));
        face.removeIf(m -> !Modifier.isPublic(m.getModifiers()));
        face.sort(Comparator.comparing(Method::getName));
        for (Method method : face) {
            for (int base = 0; base <= 1; base++) {
                callWithEdges(method, base);
            }
        }
    }

    /** All other arguments are the base, so that most calls are refused for one or two of them alone. */
    private void callWithEdges(Method method, int base) throws Exception {
        int count = method.getParameterCount();
        Object[] arguments = new Object[count];
        for (int i = 0; i < count; i++) {
            for (int k = i; k < count; k++) {
                for (Object a : edgesOf(method, i, count)) {
                    for (Object b : k == i ? new Object[] {a} : edgesOf(method, k, count)) {
                        for (int j = 0; j < count; j++) {
                            boolean isLong = method.getParameterTypes()[j] == long.class;
                            arguments[j] = j == i ? a : j == k ? b : isLong ? (Object) 1L : (Object) (j == 1 ? 1 - base : base);
                        }
                        call(method, arguments);
                    }
                }
            }
        }
        if (count == 0) {
            call(method, arguments);
        }
    }

    private static Object[] edgesOf(Method method, int i, int count) {
        if (method.getParameterTypes()[i] == long.class) {
            return Arrays.stream(LONGS).boxed().toArray();
        }
        return Arrays.stream(count > 2 ? FEWER : EDGES).boxed().toArray();
    }

    private void call(Method method, Object[] arguments) throws Exception {
        if (calls >= CALLS) {
            begin();
        }
        calls++;
        Method same = Model.class.getDeclaredMethod(method.getName(), method.getParameterTypes());
        long got = ((Number) method.invoke(real, arguments)).longValue();
        long want = ((Number) same.invoke(model, arguments)).longValue();
        CHECK.due(method.getName() + Arrays.toString(arguments) + " of " + text, got, want);
    }

    private void begin() {
        real = new ShortcutDuty();
        model = new Model();
        int[] words = Check.words(text.getBytes(java.nio.charset.StandardCharsets.ISO_8859_1));
        Check.feed(real, text);
        for (int i = 0; i < words.length; i += 5) {
            model.feed(words[i], words[i + 1], words[i + 2], words[i + 3], words[i + 4]);
        }
        model.end(text.length());
        CHECK.due("kingdom of " + text, real.kingdom(), model.kingdom());
        for (int slot = 0; slot < 3; slot++) {
            real.row(slot, slot, 4);
            model.row(slot, slot, 4);
        }
        calls = 0;
    }
}
