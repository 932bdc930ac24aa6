import com.sun.management.ThreadMXBean;
import java.lang.management.ManagementFactory;

/** LANGUAGE.md, rule 12: what the calls on one object make is little, whichever call it is. */
final class RoomTest {
    private static final ThreadMXBean BEAN = (ThreadMXBean) ManagementFactory.getThreadMXBean();
    // Behind those that made the scene, and twice as many, no object has more than 512 calls.
    private static final int CALLS = 120;

    interface Asked {
        void ask(TimeStore x);
    }

    public static void main(String[] args) {
        made();
        spent("digest", 20_000, TimeStore::digest);
        spent("isSound", 20_000, TimeStore::isSound);
        spent("joinedWords", 20_000, x -> x.joinedWords(2));
        spent("rebuiltRead", 20_000, x -> x.rebuiltRead(0, 0, 999, 10));
        spent("snap", 20_000, x -> x.drop(x.snap(0, 10)));
        spent("window", 20_000, x -> x.shut(x.window(0, 0, 0, 10)));
        spent("lasts", 20_000, x -> x.lasts(0, 0, 10, 1));
        spent("gather", 20_000, x -> x.gather(0));
        spent("line", 100_000, x -> x.line(0, 0, 10));
        longestLine();
        Check.finish();
    }

    private static void made() {
        new TimeStore();
        long before = BEAN.getThreadAllocatedBytes(Thread.currentThread().getId());
        new TimeStore();
        held("new", BEAN.getThreadAllocatedBytes(Thread.currentThread().getId()) - before, 100_000);
    }

    /** A text of 120 periods each time: 512 of these are 4 million bytes at most. */
    private static void longestLine() {
        TimeStore x = new TimeStore();
        for (int period = 880; period < 1000; period++) {
            x.tell(0, 0, period, 99);
        }
        Check.due(29, x.line(0, 0, 0).length(), 120 * 7 - 1);
        held("the longest line", bytes(x, y -> y.line(0, 0, 0)), 4_000_000 * CALLS / Calls.MOST);
    }

    private static TimeStore crowded() {
        TimeStore x = new TimeStore();
        for (int minute = 0; minute < 11; minute++) {
            for (int number = 0; number < 10; number++) {
                x.tell(0, (4 * number + minute) % 40, minute, number);
                x.tell(1, number, minute, number);
            }
            if (minute < 5) {
                x.snap(0, minute);
            }
            if (minute < 10) {
                x.tick(0, 1);
                x.tick(1, 1);
            }
        }
        x.gather(0);
        x.gather(1);
        return x;
    }

    private static void spent(String name, long most, Asked call) {
        held(name, bytes(crowded(), call), most);
    }

    private static long bytes(TimeStore x, Asked call) {
        // Once ahead of it, so that rows which grow at first are not counted.
        call.ask(x);
        long before = BEAN.getThreadAllocatedBytes(Thread.currentThread().getId());
        for (int number = 0; number < CALLS; number++) {
            call.ask(x);
        }
        return BEAN.getThreadAllocatedBytes(Thread.currentThread().getId()) - before;
    }

    private static void held(String name, long bytes, long most) {
        Check.due(61, bytes <= most ? name : name + " made " + bytes + " bytes", name);
    }
}
