import java.lang.management.ManagementFactory;

/** All calls of a run live in one room: no call makes objects, and a new one makes few. */
public final class RoomTest {
    private static final Check CHECK = new Check();

    private static long allocated() {
        com.sun.management.ThreadMXBean bean = (com.sun.management.ThreadMXBean) ManagementFactory.getThreadMXBean();
        return bean.getThreadAllocatedBytes(Thread.currentThread().getId());
    }

    /** A kingdom as full as it can be: 326 ways between two places, ten walks. */
    private static String fullest() {
        StringBuilder text = new StringBuilder("kingdom places 7 days 30 rate 9 free 1 time 3;");
        int told = 0;
        for (int a = 0; a < 7; a++) {
            for (int b = a + 1; b < 7 && told < 20; b++) {
                text.append(told < 12 ? "road " : "ford ").append(a + " to " + b + " " + (1 + told % 7) + ";");
                told++;
            }
        }
        for (int i = 0; i < 10; i++) {
            text.append("walk 0 load 5 on 3 from 0 by 3 4 5 1 2 6;");
        }
        return text.toString();
    }

    private static long callAll(ShortcutDuty x, String text) {
        Check.feed(x, text);
        long before = allocated();
        x.kingdom();
        x.row(0, 3, 10);
        x.help(5);
        x.duke(5);
        x.lane(5, 6, 2, 1);
        x.bend(3, 5, 0);
        x.watchers(1);
        x.rate(500);
        x.by(3, 0);
        x.caught(7, 20);
        x.must(5, 6, 3, 7);
        x.must(5, 6, 3, 999);
        x.paid(0, 9);
        x.sure(0, 9);
        x.ford(0);
        x.hope(0, 0);
        x.best(0, 6, 0, 3, 0);
        x.goes(0, 6, 0, 3, 2);
        x.keep(0);
        x.back(0);
        x.paste(0, 0, 0, 1, 5);
        return allocated() - before;
    }

    public static void main(String[] args) {
        String text = fullest();
        ShortcutDuty warm = new ShortcutDuty();
        callAll(warm, text);
        long before = allocated();
        ShortcutDuty x = new ShortcutDuty();
        long made = allocated() - before;
        CHECK.due("bytes for a new object are below 60,000, not " + made, made < 60000 ? 1 : 0, 1);
        CHECK.due("ways told", warm.count(4), 10);
        long spent = callAll(x, text);
        CHECK.due("bytes for all calls are below 1,000, not " + spent, spent < 1000 ? 1 : 0, 1);
        CHECK.close("RoomTest");
    }
}
