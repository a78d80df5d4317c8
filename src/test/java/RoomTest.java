import java.lang.management.ManagementFactory;

/** A run of the dearest calls keeps within the room that all calls of a run have. */
final class RoomTest {
    // 7.3 million fields and elements, of four bytes each.
    private static final long ROOM = 29200000;

    private static long answers = 0;

    private RoomTest() {
    }

    private static long bytes() {
        com.sun.management.ThreadMXBean bean = (com.sun.management.ThreadMXBean) ManagementFactory.getThreadMXBean();
        return bean.getThreadAllocatedBytes(Thread.currentThread().getId());
    }

    static void run(Check check) {
        // Classes are loaded and measured once before it counts.
        dearCalls(new AffineRanges());
        bytes();
        long before = bytes();
        AffineRanges x = new AffineRanges();
        dearCalls(x);
        long made = bytes() - before;
        check.that("the run made " + made + " bytes", made <= ROOM);
        check.that("the calls were made", answers != 0);
    }

    private static final String TEXT = "-a^3+b^3-c^3*d^3/(a^3+9)-c^3*d^3/(a^3+9)";

    private static void dearCalls(AffineRanges x) {
        for (int i = 0; i < TEXT.length(); i++) answers += x.say(TEXT.charAt(i));
        answers += x.fault();
        answers += x.load(0);
        for (int i = 0; i < 100; i++) {
            answers += x.prove(0, -1000000 + i, 200);
            answers += x.prove(0, -2 * i, 200);
            answers += x.tighten(0, 100, i & 1);
            answers += x.roots(0, i & 3, 16);
        }
        answers += x.compare(0, 0) + x.sample(0, 99, 0) + x.trace(0, 20, 1) + x.dominant(0) + x.gain(0);
        answers += x.save(0) + x.restore(0) + x.step(0, 1, 0) + x.inputs(0) + x.proof(0) + x.part(0, 14) + x.bound(0, 2, 1);
    }
}
