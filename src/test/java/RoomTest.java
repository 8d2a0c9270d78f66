import java.lang.management.ManagementFactory;

/** All calls of a run live in one room: what an object and 512 calls of the dearest kinds make stays far below it. */
public final class RoomTest {
    private static final Check check = new Check("RoomTest");
    private static final int CALLS = 512;
    /** A tenth of 7.3 million elements of four bytes. */
    private static final long MOST_BYTES = 7_300_000L * 4 / 10;

    public static void main(String[] args) {
        for (int kind = 0; kind < 5; kind++) {
            run(kind);
            long before = made();
            run(kind);
            long bytes = made() - before;
            check.is("room of kind " + kind + ", " + bytes + " bytes", bytes < MOST_BYTES, true);
        }
        check.end();
    }

    private static long made() {
        return ((com.sun.management.ThreadMXBean) ManagementFactory.getThreadMXBean())
            .getThreadAllocatedBytes(Thread.currentThread().getId());
    }

    private static void run(int kind) {
        CardsAndBans x = Check.ordinary();
        x.keeps();
        for (int i = 0; i < CALLS; i++) {
            switch (kind) {
                case 0:
                    x.play(0, 0, 1);
                    break;
                case 1:
                    x.written(i);
                    break;
                case 2:
                    x.back();
                    break;
                case 3:
                    x.season();
                    x.undo();
                    break;
                default:
                    x.tempts(0, 0, 40);
                    x.behind();
                    x.fair();
                    x.told(0);
            }
        }
    }
}
