import java.lang.management.ManagementFactory;

/** What objects and calls take of the room: a new object little, 512 calls on it nothing. */
public final class RoomTest {
    private static final com.sun.management.ThreadMXBean THREADS =
            (com.sun.management.ThreadMXBean) ManagementFactory.getThreadMXBean();
    private static final int BYTES_OF_OBJECT = 64 * 1024;
    /** The counting itself may take some. */
    private static final int BYTES_OF_CALLS = 4 * 1024;

    private static long taken() {
        return THREADS.getThreadAllocatedBytes(Thread.currentThread().getId());
    }

    private static int calls = 0;

    /** Some 60 calls, every method among them. */
    private static long everyCall(PairSorts x, int kind, int a, int b) {
        long sum = x.makes(kind, a, b) + x.pair(0, 1, 2) + x.fuses(0) + x.undo() + x.undo() + x.renames(4, 5);
        sum += x.sort(0, 1) + x.rows() + x.digest() + x.valence(1) + x.paths(1, 1, 1) + x.row(1, 1) + x.times(1);
        sum += x.back(1, 1, 0) + x.cross(1, 1, 1, 0) + x.orders(0, -1) + x.orders(1, -1) + x.fusions(-1);
        for (int what = 0; what <= 5; what++) {
            sum += x.verdict(what) + x.told(what);
        }
        sum += x.spread(3, 1, 0) + x.shadow(3, 1, 1) + x.bound(2, 0) + x.bound(6, 0) + x.most(2, 1);
        sum += x.sieve(10, 3, 0, 1) + x.sieved(60, -1) + x.clear() + x.type('n') + x.type('5') + x.type(';');
        sum += x.reads() + x.undo() + x.drops(0) + x.points(99) + x.points(13) + x.undo() + x.told(6);
        calls += 55;
        return sum;
    }

    private static long run(PairSorts x) {
        long sum = 0;
        sum += everyCall(x, 0, 11, 0);
        sum += everyCall(x, 1, 3, 2);
        sum += everyCall(x, 2, 2, 5);
        sum += everyCall(x, 3, 3, 4);
        sum += everyCall(x, 4, 3, 4);
        sum += everyCall(x, 5, 11, 5);
        sum += everyCall(x, 0, 10, 0);
        sum += everyCall(x, 5, 13, 3);
        return sum;
    }

    public static void main(String[] args) {
        long sum = run(new PairSorts());
        long start = taken();
        PairSorts x = new PairSorts();
        long made = taken();
        sum += run(x);
        long used = taken();
        System.out.println("an object takes " + (made - start) + " bytes, " + calls / 2 + " calls take "
                + (used - made) + " more (sum " + sum + ")");
        Due.holds(made - start <= BYTES_OF_OBJECT, "a new object takes " + (made - start) + " bytes");
        Due.holds(used - made <= BYTES_OF_CALLS, "calls take " + (used - made) + " bytes");
        Due.end();
    }
}
