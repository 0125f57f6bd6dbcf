import java.lang.management.ManagementFactory;

/** Calls make nothing: what a run makes is never given back, so all rows are made with the object. */
public final class RoomTest {
    public static void main(String[] args) {
        DoorCreaks[] all = new DoorCreaks[10];
        for (int i = 0; i < all.length; i++) {
            all[i] = dear();
        }
        // The first calls may have the Java machine itself make things.
        calls(all, 0, 5);
        com.sun.management.ThreadMXBean threads =
            (com.sun.management.ThreadMXBean) ManagementFactory.getThreadMXBean();
        long thread = Thread.currentThread().getId();
        long asked = threads.getThreadAllocatedBytes(thread);
        long asking = threads.getThreadAllocatedBytes(thread) - asked;
        long was = threads.getThreadAllocatedBytes(thread);
        calls(all, 5, 10);
        long made = threads.getThreadAllocatedBytes(thread) - was - asking;
        Check.due("bytes made by 5 runs of calls, above 1000", made > 1000 ? made : 0, 0);
        Check.end();
    }

    private static DoorCreaks dear() {
        DoorCreaks x = new DoorCreaks();
        for (int b = 0; b < 10; b++) {
            x.block(b % 6, 20, b, 3);
        }
        Check.law(x, "[s*2,b]-d/(3+p)");
        Check.fill(x, 0, 0, 0, 0, 0);
        return x;
    }

    private static void calls(DoorCreaks[] all, int from, int to) {
        for (int i = from; i < to; i++) {
            // 19 calls each, so that a run stays below 512.
            for (int j = 0; j < 20; j++) {
                eachCall(all[i]);
            }
        }
    }

    private static void eachCall(DoorCreaks x) {
        x.ticks(20);
        x.ahead(60, 3);
        x.from(10);
        x.still(2, 10, 0);
        x.which(1, 0);
        x.together(0, 1, 60);
        x.image();
        x.undo();
        x.feed('s', 1);
        x.law();
        x.says(3);
        x.sheet(0, 64, 4);
        x.write(0, 0, 1);
        x.copy(0, 0, 0, 1, 2);
        x.draws(0);
        x.read(0);
        x.great(1, 1);
        x.noise(0);
        x.count(9);
    }
}
