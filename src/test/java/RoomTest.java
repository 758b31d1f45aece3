import com.sun.management.ThreadMXBean;
import java.lang.management.ManagementFactory;

/** All calls of a run share one room: an object is small, and no call makes anything. */
public final class RoomTest {
    // 7.3 million fields and elements of at most 8 bytes are the room; a hundredth of it is plenty for one object.
    private static final long MOST_BYTES_OF_ONE = 73_000 * 8L;
    private static final long MOST_BYTES_OF_CALLS = 20_000;
    private static final Due due = new Due("room");
    private static final ThreadMXBean BEAN = (ThreadMXBean) ManagementFactory.getThreadMXBean();

    public static void main(String[] args) {
        calls(new PumpHouse());
        long before = made();
        PumpHouse x = new PumpHouse();
        long one = made() - before;
        due.holds("one object is small: " + one + " bytes", one < MOST_BYTES_OF_ONE);
        before = made();
        for (int i = 0; i < 100; i++) {
            calls(x);
        }
        long all = made() - before;
        due.holds("calls make nothing: " + all + " bytes", all < MOST_BYTES_OF_CALLS);
        due.finish();
    }

    private static long made() {
        return BEAN.getThreadAllocatedBytes(Thread.currentThread().getId());
    }

    private static void calls(PumpHouse x) {
        x.canal(24);
        for (int s = 1; s < 24; s++) {
            x.link(s / 2, s);
        }
        x.open(0, 2, 1);
        for (int i = 0; i < 2000; i++) {
            int s = i * 7 % 24;
            x.want(s, i % 101);
            x.step(s);
            x.deliver(i % 3);
            x.deliver(0);
            x.begin(s);
            x.count(i % 7);
            x.told(s, i % 10);
            x.end(s);
            x.cut(s / 2, s);
            x.join(s, i % 24);
            x.resend(i % 24);
            x.twin(0);
            x.lose(0);
            x.crash(i % 5);
            x.restart(i % 5);
            x.queue(s, 0, true);
            x.letter(0, i % 5);
            x.pointer(s);
            x.holder();
        }
    }
}
