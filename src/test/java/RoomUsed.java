import java.lang.management.ManagementFactory;

/** No call makes an object: the room of a run is what the constructor takes. */
public final class RoomUsed {
    private static final int ROUNDS = 2000;

    private static long allocated() {
        return ((com.sun.management.ThreadMXBean) ManagementFactory.getThreadMXBean())
                .getThreadAllocatedBytes(Thread.currentThread().getId());
    }

    /** Every call of the face once, with what works and what doesn't. */
    private static int everything(DockingMonitor m, int round) {
        int sum = m.place(2000 + round, 10, -20, 1) + m.set(round & 7, 100) + m.setPoint(round % 5000, 50)
                + m.addStop(1000 + round) + m.setBias(true, 3) + m.approach() + m.pass(5) + m.release()
                + m.retreat() + m.open(round & 3);
        sum += m.clearText() + m.append('t') + m.append('9') + m.append(';') + m.append('o')
                + m.append('0') + m.append(';') + m.append('g') + m.append(';') + m.faultPosition() + m.run();
        sum += m.save(round & 1) + m.restore(round & 1) + m.undo();
        for (int i = 0; i < 8; i++) {
            sum += m.bits(i) + m.thousandths(i);
        }
        sum += m.limit(round) + m.judgement() + m.stop(0, 2) + m.point(0, 1);
        for (int i = 0; i < 21; i++) {
            sum += m.total(i);
        }
        return sum + m.modeIn(20) + m.secondsTo(4) + m.closest(20) + (round % 50 == 0 ? m.safeSpeed() : 0);
    }

    public static void main(String[] args) {
        DockingMonitor m = new DockingMonitor();
        int sum = everything(m, 0);
        allocated();
        long before = allocated();
        for (int round = 0; round < ROUNDS; round++) {
            sum += everything(m, round);
        }
        long used = allocated() - before;
        System.out.println(used + " bytes in " + ROUNDS + " rounds (sum " + sum + ")");
        Due.is("calls make next to nothing", used < 8 * ROUNDS ? 1 : 0, 1);
        before = allocated();
        new DockingMonitor();
        used = allocated() - before;
        System.out.println("a new object takes " + used + " bytes");
        Due.is("a new object is small", used < 20000 ? 1 : 0, 1);
        Due.end();
    }
}
