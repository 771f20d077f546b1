import com.sun.management.ThreadMXBean;
import java.lang.management.ManagementFactory;

/** All calls of a run live in one room: an object is small, and its calls make nothing new. */
public final class RoomTests {
    private static final long MOST_FOR_AN_OBJECT = 200_000;
    private static final long MOST_FOR_ITS_CALLS = 20_000;

    public static void main(String[] args) {
        ThreadMXBean bean = (ThreadMXBean) ManagementFactory.getThreadMXBean();
        if (!bean.isThreadAllocatedMemorySupported()) {
            System.out.println("RoomTests: this machine does not count");
            return;
        }
        use(new AreaSetter());
        bean.getCurrentThreadAllocatedBytes();
        long start = bean.getCurrentThreadAllocatedBytes();
        AreaSetter s = new AreaSetter();
        long made = bean.getCurrentThreadAllocatedBytes();
        use(s);
        long used = bean.getCurrentThreadAllocatedBytes();
        System.out.println("RoomTests: " + (made - start) + " bytes for an object, " + (used - made) + " for 490 calls");
        if (made - start > MOST_FOR_AN_OBJECT || used - made > MOST_FOR_ITS_CALLS) {
            System.exit(1);
        }
    }

    private static void use(AreaSetter s) {
        for (int i = 0; i < 7; i++) {
            // "r best sorted(a 9,b cuts(c 5,d 3,e 1),f 4)  "
            s.feed(0x72206265, 0x73742073, 0x6f727465, 0x64286120, 0x392c6220);
            s.feed(0x63757473, 0x28632035, 0x2c642033, 0x2c652031, 0x292c6620);
            s.feed(0x34292020, 0x20202020, 0x20202020, 0x20202020, 0x20202020);
            if (s.tree() != 7) {
                throw new IllegalStateException("the text is not read");
            }
            s.rest(2, 400, false);
            for (int k = 0; k < 21; k++) {
                s.draw(k);
                s.size(3, k, k * 7);
                s.under(k * 9, k * 5);
            }
            s.sizeIn(0, 5);
            s.named();
        }
    }
}
