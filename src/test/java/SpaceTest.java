import com.sun.management.ThreadMXBean;
import java.lang.management.ManagementFactory;

/**
 * What the calls of a whole run make: all of them live in one room, of some 600,000 objects and 7.3 million
 * fields and elements. A field or an element has no more than 8 bytes, an object no less than 16.
 */
public final class SpaceTest {
    private static final Due due = new Due("SpaceTest");
    private static final int CALLS = 512;
    /** Far below the room: so many bytes are 12,500 objects at most. */
    private static final long ENOUGH = 200_000;
    private static final ThreadMXBean MACHINE = (ThreadMXBean) ManagementFactory.getThreadMXBean();

    public static void main(String[] args) {
        // The machine's own first steps are not the class's.
        for (int which = 0; which < 9; which++) {
            made(which);
        }
        for (int which = 0; which < 9; which++) {
            long bytes = made(which);
            due.yes("calls of the kind " + which + " made " + bytes + " bytes", bytes < ENOUGH);
        }
        due.close();
    }

    /** How many bytes an object with all its homes and helpers and the calls of one kind make. */
    private static long made(int which) {
        long before = MACHINE.getCurrentThreadAllocatedBytes();
        RoomForHelp x = Due.open(8, 8);
        int calls = 16;
        for (int i = 0; i < 3; i++, calls++) {
            x.live(i, i);
        }
        for (; calls < CALLS; calls++) {
            call(x, which, calls);
        }
        return MACHINE.getCurrentThreadAllocatedBytes() - before;
    }

    private static void call(RoomForHelp x, int which, int i) {
        switch (which) {
            case 0 -> x.best();
            case 1 -> x.paired(i % 8);
            case 2 -> x.likes();
            case 3 -> x.share(0, i % 501, false);
            case 4 -> x.until(0, 1 + i % 100);
            case 5 -> x.agreement();
            case 6 -> x.judged(i % 8, i % 3);
            case 7 -> x.home(0, 0, 0, 0);
            default -> x.live(i % 8, i % 8);
        }
    }
}
