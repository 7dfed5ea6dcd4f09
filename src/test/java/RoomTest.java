import com.sun.management.ThreadMXBean;
import java.lang.management.ManagementFactory;

/** All calls of a run live in one room: an object is small, and its calls make nothing. */
public final class RoomTest {
    private static final ThreadMXBean THREADS = (ThreadMXBean) ManagementFactory.getThreadMXBean();
    private static final String TEXT = "dry (water-air*10)/(3+beside)+sun*top;thick size*10-min(5,week);heat size*10-water/100;"
        + "stand wide*50;take water;beetle not kind=1 or bark=1;lay 1,5,500 on 0;";

    public static void main(String[] args) {
        Check check = new Check();
        long[] made = new long[3];
        for (int i = 0; i < made.length; i++) {
            made[i] = bytesOfARun();
        }
        check.due("512 calls make less than 20,000 bytes (" + made[2] + ")", made[2] < 20000, true);
        long before = THREADS.getCurrentThreadAllocatedBytes();
        WoodStack x = new WoodStack(6);
        long object = THREADS.getCurrentThreadAllocatedBytes() - before;
        check.due("an object is less than 60,000 bytes (" + object + ")", object < 60000 && x.about(0) == 6, true);
        check.due("the dearest order makes less than 20,000 bytes", bytesOfTheDearestOrder() < 20000, true);
        check.finish();
    }

    private static long bytesOfARun() {
        WoodStack x = new WoodStack(6);
        x.weather(1, 2, 3, 4);
        x.weather(5, 6, 7, 8);
        int[] fed = new int[(TEXT.length() + 19) / 20 * 5];
        for (int i = 0; i < fed.length; i++) {
            fed[i] = Check.four(TEXT, 4 * i);
        }
        long before = THREADS.getCurrentThreadAllocatedBytes();
        int sum = 0;
        for (int k = 0; k < 12; k++) {
            for (int i = 0; i < fed.length; i += 5) {
                sum += x.feed(fed[i], fed[i + 1], fed[i + 2], fed[i + 3], fed[i + 4]);
            }
            sum += x.end(TEXT.length()) + x.text() + x.laid(0) + x.lay(k % 6, 1, 5, 700) + x.lay(0, 0, 1, 1);
            sum += (x.by(0) ? 1 : 0) + (x.bark(0, 0, false) ? 1 : 0) + (x.measure(0, 0, 1, 2) ? 1 : 0);
            sum += x.week(k % 2) + x.order(3, 0) + x.way(9, -1, 2) + x.sure(9, 2) + x.spans(9, 0, 0, 1);
            sum += x.small(1, 900, 9) + x.winter(50) + x.remember() + x.take(1) + x.missing(-1, 1) + x.falls(1, 20, 40);
            sum += x.image() + x.back() + x.stack(5) + x.stack(6) + x.of(0, 0, 6) + x.about(3) + x.fault(0);
        }
        return THREADS.getCurrentThreadAllocatedBytes() - before + (sum == 7 ? 1 : 0);
    }

    /** The bytes that the order of most splits, columns and weeks makes by a long text. */
    private static long bytesOfTheDearestOrder() {
        WoodStack x = Check.ruled(6, "dry " + "water/9+size*beside-high/3*2+".repeat(9) + "0;");
        x.weather(5, 5, 5, 5);
        for (int i = 0; i < 48; i++) {
            x.lay(i % 6, i % 4, 1 + i % 20, 2000 - i);
        }
        long before = THREADS.getCurrentThreadAllocatedBytes();
        int heat = x.order(5, 0);
        return THREADS.getCurrentThreadAllocatedBytes() - before + (heat < 0 ? 1000000 : 0);
    }
}
