import com.sun.management.ThreadMXBean;
import java.lang.management.ManagementFactory;

/** One object is small, and its calls make no objects: all calls of a run share one room. */
public final class RoomTest {
    private static final int CALLS = 500;

    public static void main(String[] args) {
        ThreadMXBean meter = (ThreadMXBean) ManagementFactory.getThreadMXBean();
        use(new LocalMenders());
        meter.getCurrentThreadAllocatedBytes();
        long start = meter.getCurrentThreadAllocatedBytes();
        LocalMenders x = new LocalMenders();
        long made = meter.getCurrentThreadAllocatedBytes();
        use(x);
        long used = meter.getCurrentThreadAllocatedBytes();
        boolean good = made - start < 20_000 && used - made < 1_000;
        System.out.println("RoomTest: an object takes " + (made - start) + " bytes, its calls " + (used - made) + (good ? "" : ": too many"));
        if (!good) {
            System.exit(1);
        }
    }

    private static void use(LocalMenders x) {
        x.setLayout(3, 5, 8, 5);
        for (int call = 0; call < CALLS; call += 20) {
            x.write(0, call % 15, call % 16);
            x.alter(1, call % 20, call % 16);
            x.loseNode(call % 20);
            x.lose(2, 3);
            x.mend(0, 3);
            x.mendNode(call % 19);
            x.work(50);
            x.scrub();
            x.clearText();
            x.type('n');
            x.type('7');
            x.perform();
            x.keep();
            x.restore();
            x.undo();
            x.failing(0);
            x.survives(0xfffff);
            x.fatalSets(4);
            x.fatalNodes();
            x.busiest();
        }
    }
}
