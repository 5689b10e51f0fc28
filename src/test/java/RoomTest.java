import java.lang.management.ManagementFactory;

/**
 * All calls of a run live in one room of some 600,000 objects and 7.3 million elements. A box that is full,
 * and asked 512 times for what is dearest, must stay a small part of it.
 */
public final class RoomTest {
    private static final long MOST_BYTES_OF_A_BOX = 200_000;
    private static final long MOST_BYTES_OF_CALLS = 60_000;

    private static long allocated() {
        return ((com.sun.management.ThreadMXBean) ManagementFactory.getThreadMXBean()).getCurrentThreadAllocatedBytes();
    }

    public static void main(String[] args) {
        ask(fullBox());
        long start = allocated();
        PaintBox box = fullBox();
        long made = allocated() - start;
        long before = allocated();
        for (int i = 0; i < 51; i++) {
            ask(box);
        }
        long asked = allocated() - before;
        System.out.println("RoomTest: a full box takes " + made + " bytes, 510 calls " + asked);
        if (made > MOST_BYTES_OF_A_BOX || asked > MOST_BYTES_OF_CALLS) {
            System.out.println("RoomTest: that is too much");
            System.exit(1);
        }
    }

    private static PaintBox fullBox() {
        PaintBox x = new PaintBox();
        for (int t = 0; t < 12; t++) {
            x.tube(t, 10 * t, 9999);
            for (int b = 0; b < 8; b++) {
                x.band(t, b, (t * 83 + b * 131) % 1000, 1 + (t * 57 + b * 211) % 999);
            }
        }
        for (int i = 0; i < 100; i++) {
            x.press(i % 12, 0, 3);
            x.press((i + 5) % 12, 0, 4);
            x.lay(0, i / 10, 1 + 2 * i);
        }
        for (int i = 0; i < 6; i++) {
            x.tone(1000 * i, 5000, 9000 - 1000 * i);
            x.keep();
        }
        return x;
    }

    private static void ask(PaintBox x) {
        x.press(0, 0, 1);
        x.match(0, 4095, 8);
        x.glaze(1, 4095, 9000);
        x.fewest(2, 6, 3000);
        x.missed(3, 3, 30000);
        x.look(9, 0, 0);
        x.apart(5, 1);
        x.seen(0, 0, 0);
        x.hiding(0, 0);
        x.waste(0);
    }
}
