import com.sun.management.ThreadMXBean;
import java.lang.management.ManagementFactory;

/** All calls of one run live in one room: what calls make is counted, and layings alone may make anything. */
public final class RoomTest {
    private static final Due D = new Due();
    private static final ThreadMXBean BEAN = (ThreadMXBean) ManagementFactory.getThreadMXBean();
    private static long sum;

    public static void main(String[] args) {
        long idle = bytesOf(() -> { });
        D.holds("an object takes little", bytesOf(() -> new OverHill().count(0)) - idle < 20000);
        OverHill x = full();
        D.holds("calls make nothing", bytesOf(() -> calls(x)) - idle < 2000);
        D.holds("a laying takes little", bytesOf(() -> full()) - idle < 60000);
        long began = System.nanoTime();
        for (int i = 0; i < 512; i++) {
            calls(x);
        }
        D.holds("512 of the dearest calls come within seconds", System.nanoTime() - began < 60_000_000_000L);
        D.end();
    }

    /** What they make the second time, when all classes are there. */
    private static long bytesOf(Runnable calls) {
        calls.run();
        long id = Thread.currentThread().getId();
        long before = BEAN.getThreadAllocatedBytes(id);
        calls.run();
        return BEAN.getThreadAllocatedBytes(id) - before;
    }

    /** Twenty layings, the first with six ways and four engines, eight loads and nine things. */
    private static OverHill full() {
        OverHill x = new OverHill();
        for (int i = 0; i < 12; i++) {
            x.point(30 * (i % 3));
        }
        for (int i = 0; i < 20; i++) {
            x.way(i % 6, i % 6 + 1, 1 + i);
        }
        for (int i = 0; i < 6; i++) {
            x.engine(100, 3);
        }
        for (int i = 0; i < 20; i++) {
            x.laying(i % 6, 0);
        }
        for (int i = 0; i < 6; i++) {
            x.part(4, 1, i, 0);
            x.part(4, 0, i < 4 ? i : 9, 0);
        }
        for (int i = 0; i < 24; i++) {
            x.part(0, 1, 0, i % 3);
        }
        for (int bore = 0; bore < 3; bore++) {
            x.bore(bore, 1, 21 + bore);
        }
        for (int i = 0; i < 9; i++) {
            x.load(7 * i % 31 + 1);
            x.thing(i + 1, 90909 * (i + 1));
        }
        return x;
    }

    private static void calls(OverHill x) {
        for (int need = 0; need < 40000; need += 10000) {
            sum += x.most(4, need, 1) + x.flow(4, need) + x.bound(0, need) + x.helps(0, need, 0) + x.share(4, need, 600, 0);
        }
        sum += x.minutes(4, 1) + x.minutes(3, 1) + x.cart(20, 1030300, 1) + x.soon(0, 0, 6) + x.old(0);
        sum += x.act(4, 3, 7) + x.feed(4, 0) + x.table() + x.undo() + x.redo();
        sum += x.row(0, 3, 60) + x.put(0, 0, 7) + x.shift(0, 0, 0, 1, 59) + x.keep(0, 4) + x.taken(0, 2);
    }
}
