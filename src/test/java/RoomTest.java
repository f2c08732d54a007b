import com.sun.management.ThreadMXBean;
import java.lang.management.ManagementFactory;

/** The calls of a run make next to no objects: all working rows stand from the constructor on. */
public final class RoomTest {
    /** With the 18 calls before them, 11 calls each time stay below an object's 512. */
    private static final int TIMES = 44;
    private static final long ROOM_IN_BYTES = 20_000;

    public static void main(String[] args) {
        MarketAwnings warm = full();
        everything(warm, 20);
        MarketAwnings square = full();
        ThreadMXBean threads = (ThreadMXBean) ManagementFactory.getThreadMXBean();
        long thread = Thread.currentThread().getId();
        long before = threads.getThreadAllocatedBytes(thread);
        everything(square, TIMES);
        long made = threads.getThreadAllocatedBytes(thread) - before;
        Check.is("room: " + TIMES + " times every call made " + made + " bytes, too many", made > ROOM_IN_BYTES, false);
        Check.end("RoomTest");
    }

    private static MarketAwnings full() {
        MarketAwnings square = new MarketAwnings();
        for (int i = 0; i < 10; i++) {
            square.hang(i, i, 14, 14, 1 + i % 9, i % 4);
        }
        for (int i = 0; i < 8; i++) {
            square.stall(i, i);
        }
        return square;
    }

    private static void everything(MarketAwnings square, int times) {
        for (int i = 0; i < times; i++) {
            square.digest();
            square.rain(20);
            square.would(i % 8, 20);
            square.best(12, 12, 2);
            square.move(i % 9, i % 11, 3);
            square.roll(i % 10);
            square.share(i % 10, 0);
            square.advise();
            square.mean();
            square.take(9);
            square.hang(0, 0, 24, 24, 9, 3);
        }
    }
}
