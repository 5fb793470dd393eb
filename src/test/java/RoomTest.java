import com.sun.management.ThreadMXBean;
import java.lang.management.ManagementFactory;

/** The dearest calls, as often as an object is used, must take next to nothing of the room that all calls share. */
public final class RoomTest {
    private static final int CALLS = 512;
    // The room holds 7.3 million elements; a hundredth of it in bytes of ints is plenty for one object's calls.
    private static final long MOST_BYTES = 4 * 73_000;

    public static void main(String[] args) {
        PumpCrossing warm = full();
        calls(warm, 40);
        ThreadMXBean threads = (ThreadMXBean) ManagementFactory.getThreadMXBean();
        long self = Thread.currentThread().getId();
        long before = threads.getThreadAllocatedBytes(self);
        PumpCrossing x = full();
        calls(x, CALLS);
        long taken = threads.getThreadAllocatedBytes(self) - before;
        if (taken > MOST_BYTES) {
            System.out.println("the calls took " + taken + " bytes, due are at most " + MOST_BYTES);
            System.exit(1);
        }
    }

    private static PumpCrossing full() {
        PumpCrossing x = new PumpCrossing();
        for (int s = 0; s < 4; s++) {
            x.station(40, 60 + s, s);
        }
        for (int k = 0; k < 6; k++) {
            x.driver(9, k % 4, 15, k);
        }
        for (int k = 0; k < 8; k++) {
            x.level(50 + k);
        }
        x.tray(0, 0, 28);
        return x;
    }

    private static void calls(PumpCrossing x, int many) {
        for (int k = 0; k < many; k++) {
            switch (k % 8) {
                case 0: x.run(300); break;
                case 1: x.learn(0, 1, 2000, k); break;
                case 2: x.above(0, 1, 300, 20); break;
                case 3: x.turn(0, 1, 7, 40, 39); break;
                case 4: x.fill(0, 12, 0, 27); break;
                case 5: x.image(k % 3); break;
                case 6: x.feed(0x6b656570, 0x3b6b6565, 0x703b6b65, 0x65703b6b, 0x6565703b); break;
                default: x.rules(k / 8 % 4, (int) x.count(8)); break;
            }
        }
    }
}
