import java.lang.management.ManagementFactory;

/** All calls of a run share one room: the calls, the dearest ones first, make next to no objects. */
public final class RoomTest {
    private static final long BYTES_OF_AN_OBJECT = 20_000, BYTES_OF_ITS_CALLS = 20_000;

    public static void main(String[] args) {
        dearCalls(full());
        long before = allocated();
        HermitsSpoon x = full();
        long made = allocated();
        dearCalls(x);
        long after = allocated();
        Due.that("an object with all it holds takes " + (made - before) + " bytes", made - before < BYTES_OF_AN_OBJECT);
        Due.that("512 dear calls take " + (after - made) + " bytes", after - made < BYTES_OF_ITS_CALLS);
        Due.end();
    }

    private static long allocated() {
        com.sun.management.ThreadMXBean threads = (com.sun.management.ThreadMXBean) ManagementFactory.getThreadMXBean();
        return threads.getThreadAllocatedBytes(Thread.currentThread().getId());
    }

    // Ten who never starve in thirty days, with soup for 300 beats.
    private static HermitsSpoon full() {
        HermitsSpoon x = new HermitsSpoon();
        for (int h = 0; h < 10; h++) {
            x.hermit(3, 1, 1, 3, 1, 99);
        }
        for (int layer = 0; layer < 5; layer++) {
            x.soup(layer, 99);
        }
        x.heat(300);
        for (int v = 0; v < 6; v++) {
            x.letters('l' | 't' << 8 | '2' << 16);
            x.vow();
        }
        return x;
    }

    private static void dearCalls(HermitsSpoon x) {
        for (int i = 0; i < 64; i++) {
            x.fasting(i % 6, i % 10, 30);
            x.starves(i % 6, i % 10, i % 10);
            x.bestSwap(i % 6, i % 10);
            x.bestStir(i % 6, i % 10);
            x.twice(i % 6, i % 10, 60, 400);
            x.schism(i % 10, 10);
            x.bite(i % 6, i % 10, 0, 100, 0);
            x.digest();
        }
    }
}
