import com.sun.management.ThreadMXBean;
import java.lang.management.ManagementFactory;

/** Calls make no objects but a text's own rows, so all calls of a run fit in one room. */
public final class RoomTest {
    private static final ThreadMXBean THREADS = (ThreadMXBean) ManagementFactory.getThreadMXBean();

    public static void main(String[] args) {
        Check check = new Check();
        used(new MoonLodger(), 2);
        MoonLodger farm = prepared();
        check.due("bytes of many calls are few", used(farm, 40) < 4000, true);
        long before = bytes();
        MoonLodger fresh = new MoonLodger();
        long one = bytes() - before + (fresh.is(0));
        check.due("bytes of a new object, " + one + ", are at most 40000", one <= 40000, true);
        check.end("RoomTest");
    }

    private static long bytes() {
        return THREADS.getThreadAllocatedBytes(Thread.currentThread().getId());
    }

    private static MoonLodger prepared() {
        MoonLodger farm = new MoonLodger();
        for (int i = 0; i < 4; i++) {
            Check.tell(farm, "shines size-steps*2+mean height with at/9;pays light 3+bed;kicks light at/3;hour 5;");
        }
        farm.by(2);
        farm.beast(3, 3);
        farm.beast(9, 3);
        farm.image();
        return farm;
    }

    private static long used(MoonLodger farm, int rounds) {
        long before = bytes();
        for (int i = 0; i < rounds; i++) {
            farm.back();
            farm.cell(7, 1);
            farm.lodge(i % 6);
            farm.hour(20);
            farm.played(0);
            farm.years(i, 40);
            farm.undo();
            farm.foretold(60, 0, 0);
            farm.best(true);
            farm.seen(5, 3);
            farm.fits(0);
            farm.ask();
            farm.seats(2, true);
            farm.flood(5);
            farm.wet(7);
            farm.lease(6, 1, -1);
            farm.read(3, 3);
            farm.whose();
            farm.way(0, 29, 4);
            farm.rooms(1);
            farm.lonely();
            farm.image();
            farm.feed(1, 2, 3, 4, 5);
            farm.text();
        }
        return bytes() - before;
    }
}
