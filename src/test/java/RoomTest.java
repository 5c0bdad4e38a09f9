import com.sun.management.ThreadMXBean;
import java.lang.management.ManagementFactory;

/** All calls of one run live in one room: an object is small, and its dearest calls make nothing new. */
public final class RoomTest {
    private static final int CALLS = 400;
    private static final long BYTES_OF_AN_OBJECT = 8_000;
    private static final long BYTES_OF_A_FULL_TOWN = 24_000;
    private static final long BYTES_OF_ALL_CALLS = 4_000;

    private static final ThreadMXBean THREADS = (ThreadMXBean) ManagementFactory.getThreadMXBean();

    public static void main(String[] args) {
        make();
        long start = bytes();
        FireEngines x = make();
        long made = bytes();
        Towns.full();
        long built = bytes();
        Check.same("bytes of a new object: " + (made - start), made - start < BYTES_OF_AN_OBJECT, true);
        Check.same("bytes of a full town: " + (built - made), built - made < BYTES_OF_A_FULL_TOWN, true);
        Check.same("a new object", x.count(0), 0);
        dearCalls();
        Check.end();
    }

    private static FireEngines make() {
        return new FireEngines();
    }

    private static long bytes() {
        return THREADS.getCurrentThreadAllocatedBytes();
    }

    private static void dearCalls() {
        FireEngines x = Towns.full();
        for (int i = 0; i < 30; i++) {
            x.light(i, 1);
        }
        x.drive(0, 7, 4);
        x.pass(50);
        x.drive(0, 6, 4);
        x.pass(5);
        ask(x, 5);
        long start = bytes();
        int sum = ask(x, CALLS);
        long asked = bytes() - start;
        Check.same("the calls answer", sum != 0, true);
        Check.same("bytes of " + CALLS + " dear calls: " + asked, asked < BYTES_OF_ALL_CALLS, true);
    }

    private static int ask(FireEngines x, int calls) {
        int sum = 0;
        for (int i = 0; i < calls; i++) {
            switch (i % 5) {
                case 0: sum += x.advise(0, 50); break;
                case 1: sum += x.lasts(); break;
                case 2: sum += x.foresee(100, 1); break;
                case 3: sum += (int) x.digest() | 1; break;
                default: sum += x.weakest(i % 6); break;
            }
        }
        return sum;
    }
}
