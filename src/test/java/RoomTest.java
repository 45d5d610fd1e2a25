import java.lang.management.ManagementFactory;

/**
 * All calls of a run live in one room of some 600,000 objects and 7.3 million elements, so the
 * rows are made in the constructor: an object is small, and calls make next to nothing.
 */
public final class RoomTest {
    private static final int ROUNDS = 8;

    public static void main(String[] args) {
        com.sun.management.ThreadMXBean threads =
                (com.sun.management.ThreadMXBean) ManagementFactory.getThreadMXBean();
        long id = Thread.currentThread().getId();
        LineEchoes x = new LineEchoes();
        // The first rounds load classes, which is not the calls' own.
        useAll(x, 2);
        long before = threads.getThreadAllocatedBytes(id);
        long sum = useAll(x, ROUNDS);
        long used = threads.getThreadAllocatedBytes(id) - before;
        Check.holds("calls make next to nothing, not " + used + " bytes", used < 4000);
        before = threads.getThreadAllocatedBytes(id);
        LineEchoes y = new LineEchoes();
        used = threads.getThreadAllocatedBytes(id) - before;
        Check.holds("an object takes few bytes, not " + used, used < 100000);
        Check.same("both answer", sum == 0 ? 1 : y.bench(0), 0);
        Check.finish();
    }

    private static long useAll(LineEchoes x, int rounds) {
        long sum = 1;
        for (int i = 0; i < rounds; i++) {
            sum += x.addPart(3, 300) + x.addPart(2, 500) + x.splitPart(0, 1, 100);
            sum += x.reverse() + x.setBench(100, 2, 200) + x.addPulse(3, 5000);
            sum += x.keepSound() + x.observe() + x.setPart(0, 4, 444) + x.setObserved(150, i);
            sum += x.echo(9) + x.echoTime(5) + x.total(3) + x.arrival(1, 9, true);
            sum += x.echoByte(40) + x.differences() + x.fault(2) + x.peel(3) + x.found(1, 1);
            sum += x.digest() + x.part(1, 2) + x.bench(5) + x.observed(4);
            sum += x.type('l') + x.type('o') + x.type('o') + x.type('k') + x.type(';') + x.run();
            sum += x.adopt() + x.undo() + x.undo() + x.clearScript() + x.removePulse(1);
            while (x.bench(0) > 0) {
                sum += x.removePart(0);
            }
        }
        return sum;
    }
}
