import java.lang.management.ManagementFactory;

/**
 * All calls of a run live in one room: a call makes no object, and a new object is small. Also: no
 * call throws, whatever the arguments (an exception ends the test with another exit code than 0).
 */
public final class RoomTest {
    private static final int[] ARGUMENTS = {0, 1, 2, 3, -1, 4, 5, 8, 9, 11, 12, 40, 46, 49, 57, 60, 61, -40, -41,
        999999, -999999, 1000000, Integer.MAX_VALUE, Integer.MIN_VALUE};
    private static final Due due = new Due("RoomTest");
    private static long sum = 0;
    private static int turn = 0;

    public static void main(String[] args) {
        RingBases x = new RingBases();
        callMany(x, 20000);
        long bytesAhead = allocated();
        callMany(x, 200000);
        long bytes = allocated() - bytesAhead;
        due.holds("calls make no objects (" + bytes + " bytes in 200000 calls)", bytes < 200000);
        bytesAhead = allocated();
        for (int i = 0; i < 1000; i++) {
            sum += new RingBases().told(0);
        }
        bytes = allocated() - bytesAhead;
        due.holds("a new object is small (" + bytes + " bytes in 1000 objects)", bytes < 1000 * 8000);
        due.finish();
    }

    private static long allocated() {
        com.sun.management.ThreadMXBean threads =
                (com.sun.management.ThreadMXBean) ManagementFactory.getThreadMXBean();
        return threads.getThreadAllocatedBytes(Thread.currentThread().getId());
    }

    private static int argument() {
        // A row by lots, like the document's own, so that each run of the test is the same.
        turn = (int) ((turn * 16807L + 12345) % 2147483647L);
        return turn % 3 != 0 ? turn % 4 : ARGUMENTS[turn / 3 % ARGUMENTS.length];
    }

    private static void callMany(RingBases x, int calls) {
        for (int i = 0; i < calls; i++) {
            sum += i % 2 == 0 ? callNumbers(x, i / 2 % 11) : callWords(x, i / 2 % 9);
        }
    }

    private static long callNumbers(RingBases x, int kind) {
        switch (kind) {
            case 0:
                return x.base(argument() + argument(), argument() - argument());
            case 1:
                return x.put(argument(), argument() * 1000, argument() * 1000);
            case 2:
                return x.deed(argument(), argument(), argument(), argument());
            case 3:
                return x.drift(argument(), argument());
            case 4:
                return x.undo();
            case 5:
                return x.told(argument());
            case 6:
                return x.shelf(argument(), argument());
            case 7:
                return x.figure(argument(), argument());
            case 8:
                return x.compare(argument(), argument());
            case 9:
                return x.beside(argument());
            default:
                return x.norm(argument());
        }
    }

    private static long callWords(RingBases x, int kind) {
        switch (kind) {
            case 0:
                return x.feed(46 + argument()) + x.feed(48 + argument());
            case 1:
                return argument() == 1 ? x.clear() : 0;
            case 2:
                return x.normal(argument());
            case 3:
                return x.next(argument());
            case 4:
                return x.one(argument());
            case 5:
                return x.read(argument());
            case 6:
                return x.write(argument());
            case 7:
                return x.keep(argument());
            default:
                return x.goBack(argument());
        }
    }
}
