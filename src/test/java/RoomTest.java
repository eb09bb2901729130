import com.sun.management.ThreadMXBean;
import java.lang.management.ManagementFactory;

/** All calls of a run live in one room: the dearest calls make no objects, but for the search's rows once. */
public final class RoomTest {
    private static final ThreadMXBean THREADS = (ThreadMXBean) ManagementFactory.getThreadMXBean();

    public static void main(String[] args) {
        Check check = new Check("RoomTest");
        measure();
        long bytes = measure();
        System.out.println("RoomTest: " + bytes + " bytes for an object and 500 of its calls");
        check.holds("an object and 500 of its calls stay small", bytes > 0 && bytes < 16384);
        check.end();
    }

    private static long measure() {
        long before = THREADS.getThreadAllocatedBytes(Thread.currentThread().getId());
        BesideBook x = new BesideBook();
        String text = "L0801234567C76543210R13R24R35R46";
        for (int i = 0; i < text.length(); i++) {
            x.write(1, text.charAt(i));
        }
        x.library();
        x.given(0, 1);
        x.keep(0);
        for (int i = 0; i < 38; i++) {
            x.fault();
            x.ask(0, 7);
            x.ask(0, 7);
            x.goes(3, 4);
            x.goesAt(3, 4, 1);
            x.order();
            x.rows();
            x.next();
            x.clerk(7, 2, 6, 3, true);
            x.week(0, 60);
            x.never(4, 7531);
            x.again(0);
        }
        return THREADS.getThreadAllocatedBytes(Thread.currentThread().getId()) - before;
    }
}
