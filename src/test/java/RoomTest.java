import java.lang.management.ManagementFactory;

/**
 * LANGUAGE.md rule 12: what a run of 512 calls makes must stay far below the room of a run. Here
 * it is measured in bytes, which the 7.3 million fields and elements of the room would need at
 * least 7.3 million of.
 */
public final class RoomTest {
    private static final int CALLS = 512;
    private static final int MOST_BYTES = 2000000;

    public static void main(String[] args) {
        Checks checks = new Checks("RoomTest");
        if (ManagementFactory.getThreadMXBean() instanceof com.sun.management.ThreadMXBean threads) {
            play(200);
            long thread = Thread.currentThread().getId();
            long before = threads.getThreadAllocatedBytes(thread);
            long sum = play(1);
            long made = threads.getThreadAllocatedBytes(thread) - before;
            System.out.println("RoomTest: a run of " + CALLS + " calls makes " + made + " bytes");
            checks.due(1, "bytes above the bound", Math.max(0, made - MOST_BYTES), 0);
            checks.due(1, "a sum of answers is not 0", sum == 0 ? 0 : 1, 1);
        }
        checks.finish();
    }

    private static long play(int runs) {
        long sum = 0;
        for (int run = 0; run < runs; run++) {
            ShapeFits x = new ShapeFits();
            for (int i = 0; i < 12; i++) {
                x.add(3 * i, (i * 37) % 100, 1 + i % 2);
            }
            for (int call = 12; call < CALLS; call++) {
                sum += ask(x, call);
            }
        }
        return sum;
    }

    private static long ask(ShapeFits x, int call) {
        switch (call % 10) {
            case 0: return x.fit(2, call % 12, 0);
            case 1: return x.fit(4, call % 12, 1);
            case 2: return x.penaltyFor(1 + call % 12, 0);
            case 3: return x.levels(call, 1);
            case 4: return x.gap(2);
            case 5: return x.setPoint(call % 12, call % 100, 1);
            case 6: return x.undo();
            case 7: return x.blocks(3);
            case 8: return x.levelBegin(12, 11);
            default: return x.fault() + x.type(49 + call % 10);
        }
    }
}
