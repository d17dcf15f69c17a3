import com.sun.management.ThreadMXBean;
import java.lang.management.ManagementFactory;

/** All calls of a run live in one room: a call takes none of it, and a new object little. */
final class RoomTest {
    private static final ThreadMXBean THREADS = (ThreadMXBean) ManagementFactory.getThreadMXBean();
    private static final int TIMES = 20;
    private static final int OBJECTS = 100;
    /** No object takes less; the machine itself may take some room, but not in each use. */
    private static final int BYTES_OF_SMALLEST = 16;
    /** About 2600 are taken, in some 50 objects and arrays. */
    private static final int BYTES_OF_ONE = 10000;
    private static final String STREET = "m7 3 1;k0 4;k0 2;k1 5;k1 0;d0 2 2;d1 3 1;d2 1 3;d3 0 1;t0;t3;t1;";
    private static final Check check = new Check();

    public static void main(String[] args) {
        TwoKerbs first = new TwoKerbs();
        use(first);
        TwoKerbs[] some = new TwoKerbs[TIMES];
        for (int i = 0; i < TIMES; i++) {
            some[i] = new TwoKerbs();
        }
        // Behind the first use all classes are there, so that what is taken now is taken by the calls.
        long before = measured();
        for (int i = 0; i < TIMES; i++) {
            use(some[i]);
        }
        long taken = measured() - before;
        check.holds("no call makes an object: " + taken + " bytes", taken < TIMES * BYTES_OF_SMALLEST);
        check.holds("a new object takes " + BYTES_OF_ONE + " bytes at most", bytesOfOne() <= BYTES_OF_ONE);
        check.end();
    }

    private static long measured() {
        return THREADS.getCurrentThreadAllocatedBytes();
    }

    private static long bytesOfOne() {
        TwoKerbs[] made = new TwoKerbs[OBJECTS];
        long before = measured();
        for (int i = 0; i < OBJECTS; i++) {
            made[i] = new TwoKerbs();
        }
        long taken = measured() - before;
        check.holds("the objects are there", made[OBJECTS - 1].count(2) == 10 && taken > 0);
        return taken / OBJECTS;
    }

    /** Each call of the face, once at least. */
    private static void use(TwoKerbs x) {
        Check.type(x, "k0 0;x");
        x.towns();
        x.clear();
        Check.type(x, STREET);
        x.towns();
        x.tides(4);
        x.ties(2, 1);
        x.keep(0);
        x.carries(2, 1);
        x.undo();
        look(x);
        x.found(0, 1);
        x.saw(1, 4);
        look(x);
        x.forget();
        x.back(0);
        look(x);
    }

    private static void look(TwoKerbs x) {
        for (int what = -1; what <= 8; what++) {
            x.kerb(2, what);
            x.thing(0, what);
            x.now(what);
            x.count(what);
            x.high(what);
            x.level(what);
            x.flood(what);
            x.rate(what, 1);
        }
        x.where(0, 400);
        x.when(0, 3);
        x.send(2, 3, 1);
        x.meet(0, 2);
        x.round(1);
        x.odds(0, 2, 4, 5, 1);
        x.began();
        x.laws(1);
        x.trace();
    }
}
