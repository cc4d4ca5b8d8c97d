import com.sun.management.ThreadMXBean;
import java.lang.management.ManagementFactory;

/** All calls of one run live in one room: an office makes its rows once, and its calls make next to nothing. */
final class RoomTests {
    private static final String ALL_HOUSED = "nw1 ".repeat(14) + "q0=9 q1=9 a0>0 a1>0 a2>0 a3>0 a4>0 a5>0 a6>0 a7>0 a8>0"
            + " a9>1 a10>1 a11>1 a12>1 a13>1 d0 d1";
    private static final ThreadMXBean THREADS = (ThreadMXBean) ManagementFactory.getThreadMXBean();

    private RoomTests() {
    }

    static void run() {
        Expect.promise(0);
        used(Make.office(ALL_HOUSED));
        long before = bytes();
        SockEmbassy office = new SockEmbassy();
        long made = bytes() - before;
        Expect.holds(made < 50_000, "an office takes " + made + " bytes");
        Make.run(office, ALL_HOUSED);
        long used = used(office);
        Expect.holds(used < 5_000, "the calls of a run take " + used + " bytes");
    }

    /** The bytes that the dearest calls take. */
    private static long used(SockEmbassy office) {
        long before = bytes();
        for (int round = 0; round < 45; round++) {
            office.isConsistent();
            office.setQuota(round % 5, round % 10);
            office.wouldExpel(20);
            office.canMove(0, 1);
            office.saveSnapshot();
            office.appendInput('y');
            office.appendInput('1');
            office.execute();
            office.undo();
        }
        for (int sock = 0; sock < office.sockCount(); sock++) {
            office.writeSock(sock);
        }
        return bytes() - before;
    }

    private static long bytes() {
        return THREADS.getThreadAllocatedBytes(Thread.currentThread().getId());
    }
}
