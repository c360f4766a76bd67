import java.lang.management.ManagementFactory;

/** All calls of a run live in one room: what is made is made in the constructor, and no call makes more. */
public final class RoomTest {
    // What the measuring itself may take.
    private static final long SLACK = 4096;

    private static long allocated() {
        com.sun.management.ThreadMXBean bean =
            (com.sun.management.ThreadMXBean) ManagementFactory.getThreadMXBean();
        return bean.getThreadAllocatedBytes(Thread.currentThread().getId());
    }

    private static int dearCalls(AssertionGate gate) {
        int sum = 0;
        gate.trust(0, 67591, 5);
        gate.key(0, 67591, 26829);
        for (int r = 0; r < 20; r++) {
            sum += gate.request(0);
            gate.issue(0, r, r, 10, 3);
            sum += gate.consume() + gate.elements() + gate.digest(0) + gate.seal(0, 3);
            gate.cut(0, 100);
            gate.paste(0);
            gate.write('x');
            gate.set(0, 'y');
            sum += gate.consume() + gate.session(r) + gate.name(r, 1) + gate.outstanding();
            gate.leave(0, r);
            sum += gate.consume() + gate.length() + gate.at(5);
            gate.pass(1);
            gate.clear();
        }
        return sum;
    }

    public static void main(String[] args) {
        int first = dearCalls(new AssertionGate(0, 100));
        AssertionGate gate = new AssertionGate(0, 100);
        allocated();
        long before = allocated();
        int second = dearCalls(gate);
        long taken = allocated() - before;
        Due.is("the same calls", second, first);
        Due.yes("400 calls took " + taken + " bytes, which", taken <= SLACK);
        Due.end();
    }
}
