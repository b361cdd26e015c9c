import com.sun.management.ThreadMXBean;
import java.lang.management.ManagementFactory;

/** All calls of a run live in one room: the dearest calls make nothing but the rows of trees, and these once. */
public final class RoomTest {
    public static void main(String[] args) {
        Due due = new Due();
        ThreadMXBean bean = (ThreadMXBean) ManagementFactory.getThreadMXBean();
        // the first look makes objects of its own
        run();
        bean.getCurrentThreadAllocatedBytes();
        long before = bean.getCurrentThreadAllocatedBytes();
        run();
        long made = bean.getCurrentThreadAllocatedBytes() - before;
        // two rows of 16807 numbers of four bytes, those of fewer pictures, and the object itself
        due.holds("a run of calls makes " + made + " bytes, at most 170000", made <= 170000);
        System.out.println("a run of calls makes " + made + " bytes");
        due.end();
    }

    private static void run() {
        CopiedSkins x = new CopiedSkins();
        for (int i = 0; i < 6; i++) {
            x.picture(i * 9871 % 65536, 0, 99);
            x.least(2);
            x.man();
        }
        for (int i = 0; i < 49; i++) {
            x.set(0, i);
            x.least(1);
            x.kept(99, -1, 0);
            x.sure(99, 9);
            x.lost(-1, 63, 2);
            x.cover(65535);
            x.meet(i % 6, i / 4);
            x.must(i % 6, 0);
            x.image(i % 2);
            x.restore(0);
        }
    }
}
