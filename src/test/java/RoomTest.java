import java.lang.management.ManagementFactory;

/** A run of 512 of the dearest calls makes no objects beyond those of the constructor. */
public final class RoomTest {
    // What the run may allocate in all, in bytes: far less than an object for each call.
    private static final long ALLOWED = 4096;

    private RoomTest() {
    }

    public static void main(String[] args) {
        com.sun.management.ThreadMXBean meter =
                (com.sun.management.ThreadMXBean) ManagementFactory.getThreadMXBean();
        run(new ConstrainedDelaunay());
        ConstrainedDelaunay d = new ConstrainedDelaunay();
        long self = Thread.currentThread().getId();
        long before = meter.getThreadAllocatedBytes(self);
        int calls = run(d);
        long made = meter.getThreadAllocatedBytes(self) - before;
        Check.same("calls", calls, 512);
        Check.same("the calls made " + made + " bytes", made <= ALLOWED, true);
        Check.finish();
    }

    private static int run(ConstrainedDelaunay d) {
        int calls = 0;
        for (int p = 0; p < 15; p++, calls++) {
            d.addPoint(7 * p % 30 * 3, 11 * p % 17 * 5);
        }
        for (int p = 0; p < 5; p++, calls++) {
            if (d.edgeBetween(d.edgeEnd(p, 0), d.edgeEnd(p, 1)) == p) {
                d.addConstraint(d.edgeEnd(p, 0), d.edgeEnd(p, 1));
            }
        }
        for (int i = 0; i < 60; i++, calls++) {
            d.feed("1,99;2,98;000-007;".charAt(i % 18));
        }
        d.readInput();
        calls++;
        while (calls < 512) {
            d.effect(calls % d.constraintCount());
            d.squaredLength(2);
            d.walk(calls % d.triangleCount(), calls % 101, 50, true);
            d.kindAt(calls % 101, 3);
            d.save();
            d.forcedConstraints();
            calls += 6;
        }
        return Math.min(calls, 512);
    }
}
