import java.lang.management.ManagementFactory;

/** The dearest runs of 512 calls: what they make fits into the room of one run, and they end soon. */
public final class Room {
    // The room of a run has 7.3 million fields and elements, most of them ints.
    private static final long MOST_BYTES = 4 * 7_300_000L;
    private static final int CALLS = 512;

    public static void main(String[] args) {
        // A first run loads the classes, which is not the program's own.
        plates();
        bars();
        sparing("plates", measured(true));
        sparing("bars", measured(false));
        manyChanges();
        Due.end();
    }

    private static void sparing(String run, long bytes) {
        System.out.println("a run of " + run + " made " + bytes + " bytes");
        Due.holds(run + " made " + bytes + " bytes, more than " + MOST_BYTES, bytes <= MOST_BYTES);
    }

    private static long measured(boolean isPlates) {
        com.sun.management.ThreadMXBean threads = (com.sun.management.ThreadMXBean) ManagementFactory.getThreadMXBean();
        long before = threads.getCurrentThreadAllocatedBytes();
        if (isPlates) {
            plates();
        } else {
            bars();
        }
        return threads.getCurrentThreadAllocatedBytes() - before;
    }

    private static void plates() {
        CuttingRules x = new CuttingRules();
        x.plate(16, 16, 0, 4, 0);
        int[][] defects = {{2, 3}, {7, 1}, {12, 5}, {4, 9}, {9, 12}, {13, 14}};
        for (int[] d : defects) {
            x.defect(d[0], d[1], 1, 1);
        }
        int[][] kinds = {{3, 2}, {5, 4}, {2, 7}, {6, 6}, {1, 3}, {4, 5}, {8, 3}, {7, 7}};
        for (int[] k : kinds) {
            x.kind(k[0], k[1], k[0] * k[1] * 3, true);
        }
        for (int call = 15; call < CALLS; call += 2) {
            x.value(call % 8, 1 + call % 40);
            x.piece(0, 0);
        }
    }

    private static void bars() {
        CuttingRules x = new CuttingRules();
        x.stock(99, 30);
        x.stock(60, 17);
        x.stock(30, 9);
        for (int k = 0; k < 4; k++) {
            x.order(2 + 3 * k, 5);
        }
        for (int call = 7; call < CALLS; call += 2) {
            x.blade(call / 2 % 4);
            x.bar(0, 0);
        }
    }

    // What is answered behind the 512th call is free, but each call has to end, and none may throw.
    private static void manyChanges() {
        CuttingRules x = new CuttingRules();
        x.plate(9, 9, 0, 4, 0);
        x.defect(4, 4, 1, 1);
        x.kind(2, 3, 6, true);
        x.order(2, 5);
        for (int i = 0; i < 5_000; i++) {
            x.value(0, 1 + i % 9);
            x.worth(0, 0, 9, 9, 1);
            x.stock(1 + i % 99, 1);
            x.bars();
        }
    }
}
