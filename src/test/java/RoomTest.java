import com.sun.management.ThreadMXBean;
import java.lang.management.ManagementFactory;

/** All calls of a run live in one room: what an object makes is counted here, in bytes as this machine has them. */
public final class RoomTest {
    private static final String LAND = "towns 6;road 0 1 1;road 1 2 1;road 2 3 1;road 3 4 1;road 4 5 1;road 0 5 2;bank 1;ruler 2;"
        + "poor 0 99 99 9;knight 1 99 99 9;widow 2 99 99 9;doubter 3 99 99 9;poor 4 99 99 9;poor 5 99 99 9;poor 0 9 9 9;poor 0 9 9 9;"
        + "letter 1 1;letter 1 2;letter 2 3;letter 2 2;";

    public static void main(String[] args) {
        ThreadMXBean meter = (ThreadMXBean) ManagementFactory.getThreadMXBean();
        long thread = Thread.currentThread().getId();
        YearsForCoin x = made();
        askAll(x);
        x = made();
        long before = meter.getThreadAllocatedBytes(thread);
        askAll(x);
        long asked = meter.getThreadAllocatedBytes(thread) - before;
        // The meter itself may make a little.
        Check.due("bytes made by all calls: " + asked, asked < 2000, true);
        before = meter.getThreadAllocatedBytes(thread);
        YearsForCoin y = new YearsForCoin();
        boolean images = y.image(0) && y.image(1) && y.image(2);
        long whole = meter.getThreadAllocatedBytes(thread) - before;
        Check.due("images", images, true);
        Check.due("bytes of an object with its images: " + whole, whole < 60000, true);
        Check.exit("RoomTest");
    }

    private static YearsForCoin made() {
        YearsForCoin x = Check.told(0, LAND);
        Check.tell(x, 1, "sell 0 0;".repeat(20) + "go 1;go 0;".repeat(10));
        Check.tell(x, 2, "in 5;key 0;count 4;key 1;count 4;".repeat(4));
        Check.tell(x, 3, "parties 4;worth 15 40;");
        x.image(0);
        return x;
    }

    private static void askAll(YearsForCoin x) {
        x.feed(1, 2, 3, 4, 5);
        x.text(1, -1);
        x.end(0);
        x.image(0);
        x.again(0);
        x.text(1, 1);
        for (int k = -2; k < 4; k++) {
            x.land(0, k);
            x.deed(0, k, 0);
            x.state(0, 0, 40, k);
            x.priced(0, 60, k, true);
            x.tour(0, 40, 0, k);
            x.hold(0, 0, k);
            x.plan(9, 20, k);
            x.entry(0, k, 2);
            x.thieves(0, k);
            x.bargain(0, k);
            x.rows(0, k);
            x.fair(0, k, true);
            x.drawn(0, k, 60, 0);
            x.round(0, k);
            x.power(0, k);
            x.after(0, 0, k);
            x.even(0, k);
        }
        x.stop(0, 0);
        x.takes(0, 0, 5, 5);
        x.days(0, 0, 5);
        x.border(0, 40, 0, true);
        x.ranked(0, 60);
        x.sold(0, 60, 9);
        x.reach(0, 9);
        x.centre(0, true);
        x.until(0, 0, 0);
        x.enough(0, 0);
        x.loan(999, 1, 20, true);
        x.opened(0, true);
        x.poorer(0);
        x.within(9, 999);
        x.count(0);
        x.fault(1);
    }
}
