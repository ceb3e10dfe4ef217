import com.sun.management.ThreadMXBean;
import java.lang.management.ManagementFactory;

/** The room that calls take: the dearest ones make nothing, whatever they are asked. */
public final class RoomTest {
    private static final Check CHECK = new Check("RoomTest");
    private static final int CALLS = 200;
    private static final long ROOM_OF_A_YARD = 30_000;
    private static final ThreadMXBean THREADS =
            (ThreadMXBean) ManagementFactory.getThreadMXBean();

    public static void main(String[] args) {
        // The first one loads classes, which is not what is counted here.
        GnomonYard yard = new GnomonYard();
        long before = taken();
        yard = new GnomonYard();
        CHECK.holds(taken() - before < ROOM_OF_A_YARD, "a yard takes too much room");
        yard.place(51, 0);
        yard.place(0, 0);
        yard.dial(0, 40, 20, 100);
        yard.find(200, 150, 1, -1);
        everyCall(yard);
        before = taken();
        for (int i = 0; i < CALLS; i++) {
            everyCall(yard);
        }
        CHECK.holds(taken() - before < 1000, "calls take room");
        CHECK.end();
    }

    private static long taken() {
        return THREADS.getCurrentThreadAllocatedBytes();
    }

    private static void everyCall(GnomonYard yard) {
        yard.sine(1);
        yard.day(1, 1);
        yard.sun(1, 1, 1, 1);
        yard.light(0, 0, 2);
        yard.lightAnew(0, 0);
        yard.hour(0, 0, 180, 0);
        yard.summer(0, 0);
        yard.stand(0, 1, 10, 10);
        yard.shadow(0, 0, 180, true);
        yard.blur(0, 0, 180);
        yard.line(0, 12, 4);
        yard.read(0, 0, 0, 0);
        yard.tells(0, 0, 180);
        yard.worst(0, 0, 0);
        yard.best(0, 1, 0);
        yard.lies(0);
        yard.cost();
        yard.fits(10, -45, 2, 0);
        yard.forget();
        yard.find(200, 150, 1, -1);
    }
}
