import com.sun.management.ThreadMXBean;
import java.lang.management.ManagementFactory;

/** All calls of a run live in one room: calls make no new objects, and an object with its rows is small. */
public final class RoomTest {
    private static final int OBJECTS = 100;
    private static final int CALLS = 400;
    private static final long BYTES_OF_AN_OBJECT = 20_000;
    private static final long BYTES_OF_ALL_CALLS = 4_000;

    public static void main(String[] args) {
        ThreadMXBean threads = (ThreadMXBean) ManagementFactory.getThreadMXBean();
        long self = Thread.currentThread().getId();
        TouchSheet[] made = new TouchSheet[OBJECTS];
        dearCalls(new TouchSheet());
        long start = threads.getThreadAllocatedBytes(self);
        for (int i = 0; i < OBJECTS; i++) {
            made[i] = new TouchSheet();
        }
        long afterMaking = threads.getThreadAllocatedBytes(self);
        dearCalls(made[0]);
        long afterCalls = threads.getThreadAllocatedBytes(self);
        Due.due("an object is small", (afterMaking - start) / OBJECTS <= BYTES_OF_AN_OBJECT, true);
        Due.due("calls make nothing", afterCalls - afterMaking <= BYTES_OF_ALL_CALLS, true);
        Due.end();
    }

    private static void dearCalls(TouchSheet t) {
        for (int k = 0; k < 8; k++) {
            t.corner(3 * k, k * k % 24);
        }
        t.line(3);
        for (int i = 1; i < 12; i++) {
            t.ground(i, 2 * i % 7, i + 5, 2 * i % 7 + 6, 1 + i % 9);
        }
        for (int k = 0; k < CALLS / 8; k++) {
            t.gap(1 + k % 6);
            t.price(k % 4, k);
            t.kept();
            t.sheets();
            t.cost();
            t.print(4095 >> k % 12);
            t.simplify(0, k % 3);
            t.thing(0, 5);
        }
    }
}
