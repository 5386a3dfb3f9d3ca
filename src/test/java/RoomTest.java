import com.sun.management.ThreadMXBean;
import java.lang.management.ManagementFactory;

/**
 * How much the dearest runs of calls make. The room holds some 7.3 million fields and elements: a
 * run that makes less than so many bytes stays far below, for an element is an int nearly everywhere.
 */
public final class RoomTest {
    private static final long ROOM = 7_300_000L;
    private static final int CALLS = 512;

    private static final Due due = new Due("RoomTest");
    private static final ThreadMXBean threads = (ThreadMXBean) ManagementFactory.getThreadMXBean();

    public static void main(String[] args) {
        small("new objects alone", () -> {
            for (int i = 0; i < CALLS; i++) {
                new ClueLogic().told(0);
            }
        });
        small("reads of no text", () -> {
            ClueLogic logic = new ClueLogic();
            for (int i = 0; i < CALLS; i++) {
                logic.read();
            }
        });
        small("the shortest texts", () -> rounds("433;"));
        small("short texts", () -> rounds("433;~t0;"));
        small("long texts", () -> rounds("433;" + ("~".repeat(25) + "=a0b0;").repeat(9)));
        small("one text, many questions", () -> {
            ClueLogic logic = Due.of("433;|=a0b0p0<b1c2;");
            for (int i = 0; i < 490; i++) {
                logic.run();
                logic.often(0, 0, 0);
                logic.spare(0);
                logic.cross();
            }
        });
        due.end();
    }

    private static void rounds(String text) {
        ClueLogic logic = new ClueLogic();
        for (int calls = 0; calls < CALLS; calls += text.length() + 5) {
            for (int i = 0; i < text.length(); i++) {
                logic.unit(text.charAt(i));
            }
            logic.read();
            logic.run();
            logic.often(0, 0, 0);
            logic.spare(0);
            logic.cross();
        }
    }

    private static void small(String what, Runnable run) {
        long before = threads.getCurrentThreadAllocatedBytes();
        run.run();
        long bytes = threads.getCurrentThreadAllocatedBytes() - before;
        System.out.println("RoomTest: " + what + ": " + bytes + " bytes");
        due.holds(what + " stay below " + ROOM + " bytes", bytes < ROOM);
    }
}
