import com.sun.management.ThreadMXBean;
import java.lang.management.ManagementFactory;

/** What an object and its calls make, in bytes: all calls of one run share one room that is never swept. */
public final class RoomTest {
    private static final int CALLS = 512;
    // The rows of bits for two laws are 12,520 bytes each; the rest of an object is small.
    private static final long MOST_OF_A_RUN = 40000;
    private static final long MOST_OF_AN_OBJECT = 4000;

    private static long sum = 0;

    public static void main(String[] args) {
        ThreadMXBean room = (ThreadMXBean) ManagementFactory.getThreadMXBean();
        for (int warm = 0; warm < 30; warm++) {
            run(new SilenceCount());
        }
        long before = room.getCurrentThreadAllocatedBytes();
        SilenceCount house = new SilenceCount();
        long made = room.getCurrentThreadAllocatedBytes();
        run(house);
        long after = room.getCurrentThreadAllocatedBytes();
        Due.isTrue("an object makes " + (made - before), made - before <= MOST_OF_AN_OBJECT);
        Due.isTrue("a run makes " + (after - made), after - made <= MOST_OF_A_RUN);
        System.out.println("an object: " + (made - before) + " bytes, its 512 calls: " + (after - made) + " bytes");
        Due.isTrue("answers were used", sum != 0);
        Due.close();
    }

    private static void run(SilenceCount house) {
        for (int monk = 0; monk < 8; monk++) {
            sum += house.monk(monk, 999000 + monk, 1 + monk);
        }
        for (int call = 8; call < CALLS; call++) {
            sum += one(house, call);
        }
    }

    private static long one(SilenceCount house, int call) {
        switch (call % 31) {
            case 0: return house.monk(call % 8, call, 3);
            case 1: return house.leave(call % 8);
            case 2: return house.set(0, 1000000);
            case 3: return house.say(':');
            case 4: return house.say('*');
            case 5: return house.fault();
            case 6: return house.judge(0);
            case 7: return call % 3 == 0 ? house.done() : house.told(0);
            case 8: return house.state(3, 0);
            case 9: return house.behind(3, 0);
            case 10: return house.breaths(1);
            case 11: return house.noticed();
            case 12: return house.ahead();
            case 13: return house.differ();
            case 14: return house.alike(-1);
            case 15: return house.ends(-1);
            case 16: return house.meet(1, 2);
            case 17: return house.bows(call % 5, 1, 100000);
            case 18: return house.next(call % 5, 1000000 - call);
            case 19: return house.elbows(0);
            case 20: return house.relays(1, 24, 7, 1);
            case 21: return house.beads(200, 1);
            case 22: return house.seen(call % 8, call % 100, false);
            case 23: return call % 5 == 0 ? house.forget() : house.wipe();
            case 24: return house.skips(call % 5, 0);
            case 25: return house.ask(call % 5, 3, 1);
            case 26: return house.bees(10, 3, 0, 1);
            case 27: return house.year(call, 99, 0);
            case 28: return house.image(0);
            case 29: return house.restore(0);
            default: return house.told(1);
        }
    }
}
