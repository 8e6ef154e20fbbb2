import com.sun.management.ThreadMXBean;
import java.lang.management.ManagementFactory;

/** What a run of calls makes: a few kilobytes for an object and its images, and nothing for a call. */
public final class RoomTest {
    private static final ThreadMXBean THREADS = (ThreadMXBean) ManagementFactory.getThreadMXBean();

    public static void main(String[] args) {
        // The first run loads classes, which takes room of its own.
        for (int run = 0; run < 3; run++) {
            long before = made();
            WheelStands x = new WheelStands();
            long object = made() - before;
            before = made();
            int answers = imagesOf(x);
            long images = made() - before;
            before = made();
            answers += dearestCalls(x);
            long calls = made() - before;
            if (run > 0) {
                Due.yes("an object takes " + object + " bytes", object < 40_000);
                Due.yes("its images take " + images + " bytes", images < 120_000);
                Due.yes("456 calls take " + calls + " bytes", calls < 10_000);
                Due.is("calls that were granted", answers, 4 + 50 * 9);
            }
        }
        Due.close("RoomTest");
    }

    private static long made() {
        return THREADS.getThreadAllocatedBytes(Thread.currentThread().getId());
    }

    private static int imagesOf(WheelStands x) {
        int answers = 0;
        for (int k = 0; k < 4; k++) {
            answers += x.image(k) ? 1 : 0;
        }
        return answers;
    }

    private static int dearestCalls(WheelStands x) {
        x.stand(12);
        x.stand(12);
        x.put(0, 0, 0);
        x.put(3, 0, 1);
        x.cart(8, 0);
        x.demand(0, 0, 99, 99);
        int granted = 0;
        for (int i = 0; i < 50; i++) {
            granted += x.want(0, 1) && x.want(1, 1) ? 2 : 0;
            granted += x.carry(0) > 0 ? 1 : 0;
            granted += x.want(0, 2) && x.want(1, 0) ? 2 : 0;
            granted += x.carry(0) > 0 ? 1 : 0;
            granted += x.image(i % 4) && x.again(i % 4) ? 2 : 0;
            granted += x.shortage(0) == -2 ? 1 : 0;
        }
        return granted;
    }
}
