import com.sun.management.ThreadMXBean;
import java.lang.management.ManagementFactory;

/** LANGUAGE.md, rule 12: what 512 calls make is little, whichever call it is. */
final class RoomTest {
    private static final ThreadMXBean BEAN = (ThreadMXBean) ManagementFactory.getThreadMXBean();

    public static void main(String[] args) {
        TimeStore x = new TimeStore();
        TimeStore y = crowded();
        spent("new", 1, 100_000, TimeStore::new);
        spent("digest", 512, 100_000, y::digest);
        spent("isSound", 512, 100_000, y::isSound);
        spent("joinedWords", 512, 100_000, () -> y.joinedWords(2));
        spent("rebuiltRead", 512, 100_000, () -> y.rebuiltRead(0, 0, 999, 10));
        spent("snap", 512, 100_000, () -> y.drop(y.snap(0, 10)));
        spent("window", 512, 100_000, () -> y.shut(y.window(0, 0, 0, 10)));
        spent("lasts", 512, 100_000, () -> y.lasts(0, 0, 10, 1));
        // A text of 120 periods each time.
        for (int period = 880; period < 1000; period++) {
            x.tell(0, 0, period, 99);
        }
        Check.due(29, x.line(0, 0, 0).length(), 120 * 7 - 1);
        spent("line", 512, 4_000_000, () -> x.line(0, 0, 0));
        Check.finish();
    }

    private static TimeStore crowded() {
        TimeStore x = new TimeStore();
        for (int minute = 0; minute < 11; minute++) {
            for (int number = 0; number < 10; number++) {
                x.tell(0, (4 * number + minute) % 40, minute, number);
                x.tell(1, number, minute, number);
            }
            if (minute < 5) {
                x.snap(0, minute);
            }
            if (minute < 10) {
                x.tick(0, 1);
                x.tick(1, 1);
            }
        }
        x.gather(0);
        x.gather(1);
        return x;
    }

    private static void spent(String name, int calls, long most, Check.Call call) {
        // Once ahead of it, so that rows which grow at first are not counted.
        call.run();
        long before = BEAN.getThreadAllocatedBytes(Thread.currentThread().getId());
        for (int number = 0; number < calls; number++) {
            call.run();
        }
        long bytes = BEAN.getThreadAllocatedBytes(Thread.currentThread().getId()) - before;
        Check.due(61, bytes <= most ? name : name + " made " + bytes + " bytes", name);
    }
}
