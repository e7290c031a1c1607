import com.sun.management.ThreadMXBean;
import java.lang.management.ManagementFactory;

/** All calls of one run live in one room: laws and images alone make something, all other calls nothing. */
public final class RoomTest {
    // The room's 7.3 million fields and elements are at least so many bytes.
    private static final long ROOM = 29000000L;
    // What the machine itself may make by the way.
    private static final long NOTHING_MUCH = 10000L;
    private static final int CALLS = 512;
    private static final String LONG_LAW = Texts.repeat("turns army*men+1 if fort<9 and day=0;", 7) + "bars";
    private static final ThreadMXBean THREAD = (ThreadMXBean) ManagementFactory.getThreadMXBean();

    interface Calls {
        void on(OpenGates x, int i);
    }

    public static void main(String[] args) {
        if (!THREAD.isThreadAllocatedMemorySupported()) {
            System.out.println("this machine does not tell what is made");
            return;
        }
        THREAD.setThreadAllocatedMemoryEnabled(true);
        objects();
        run("laws, read and gone back to", ROOM / 10, (x, i) -> {
            if (x.count(5) == 6) {
                x.back(0);
            } else {
                Texts.law(x, LONG_LAW);
            }
        });
        run("texts that can't be read", NOTHING_MUCH, (x, i) -> {
            x.feed(0x7475726e, 0x73202020, i, i, i);
            x.law();
        });
        run("orders", NOTHING_MUCH, (x, i) -> {
            x.feed(0x6d616e20, 0x30206279, 0x20312020, 0x20202020, 0x20202020);
            x.orders();
        });
        run("images", NOTHING_MUCH, (x, i) -> {
            x.image(i & 1);
            x.back(i & 1);
        });
        run("bluffs under a law", NOTHING_MUCH, (x, i) -> x.bluff(i % 6, 1 + i % 99, i & 1));
        run("sieges by draws", NOTHING_MUCH, (x, i) -> x.sieges(i, 60));
        run("marches and undo", NOTHING_MUCH, (x, i) -> {
            x.march(1 + i % 99, i % 6);
            x.undo();
        });
        run("sets of fires", NOTHING_MUCH, (x, i) -> {
            x.fits(i);
            x.next(0);
            x.enough(1);
        });
        run("careers, retreats, holds", NOTHING_MUCH, (x, i) -> {
            x.career(i % 11, 0);
            x.retreat(0, 5, i % 6);
            x.holds(i % 6, 30);
        });
        Check.finish();
    }

    /** As many objects as a run has calls, each with both images. */
    private static void objects() {
        Check.about("new objects");
        long before = THREAD.getCurrentThreadAllocatedBytes();
        for (int i = 0; i < CALLS; i++) {
            OpenGates x = new OpenGates();
            x.image(0);
            x.image(1);
        }
        long bytes = THREAD.getCurrentThreadAllocatedBytes() - before;
        Check.isTrue("made " + bytes + " bytes", bytes < ROOM);
    }

    private static void run(String name, long most, Calls calls) {
        Check.about(name);
        OpenGates x = withAllThereIsRoomFor();
        calls.on(x, 0);
        long before = THREAD.getCurrentThreadAllocatedBytes();
        for (int i = 0; i < CALLS; i++) {
            calls.on(x, i);
        }
        long bytes = THREAD.getCurrentThreadAllocatedBytes() - before;
        Check.isTrue("made " + bytes + " bytes", bytes < most);
    }

    private static OpenGates withAllThereIsRoomFor() {
        OpenGates x = new OpenGates();
        for (int i = 0; i < 6; i++) {
            x.fort(10 * i, i % 4);
        }
        for (int i = 0; i < 5; i++) {
            x.road(i, i + 1, 7);
        }
        for (int i = 0; i < 10; i++) {
            x.fire(6 * i);
            x.siege(i, i, 10 * i);
        }
        x.image(0);
        Check.same("law()", Texts.law(x, LONG_LAW), 0);
        x.force(0);
        return x;
    }
}
