import java.lang.management.ManagementFactory;

/** The dearest calls make nothing, and an object holds little: all calls of one run live in one room. */
public final class RoomTest {
    /** So many that with those that make the object ready they are no more than 512. */
    private static final int CALLS = 380;
    private static final int ACTS = 18;
    private static final long BYTES_OF_AN_OBJECT = 16 * 1024;

    private RoomTest() {
    }

    public static void main(String[] args) {
        // Once ahead, as the machine itself makes something when a class is first used.
        bytesOfCalls(fullest());
        long ahead = allocated();
        WellTold x = fullest();
        long made = allocated() - ahead;
        Checks.dueTrue("an object of " + made + " bytes is small", made < BYTES_OF_AN_OBJECT);
        long bytes = bytesOfCalls(x);
        Checks.dueTrue("less than a byte a call, of " + bytes + " by " + CALLS, bytes < CALLS);
        Checks.end("RoomTest");
    }

    private static long allocated() {
        return ((com.sun.management.ThreadMXBean) ManagementFactory.getThreadMXBean()).getCurrentThreadAllocatedBytes();
    }

    private static long bytesOfCalls(WellTold x) {
        long before = allocated();
        long nothing = allocated() - before;
        long ahead = allocated();
        for (int i = 0; i < CALLS; i++) {
            dearCall(x, i % ACTS);
        }
        return allocated() - ahead - nothing;
    }

    /** As many of all as there can be, and two long TEXTS. */
    private static WellTold fullest() {
        WellTold x = new WellTold();
        x.wells(8);
        for (int i = 0; i < 8; i++) {
            x.way(i, (i + 1) % 8, 1);
            x.call(10 * (i % 7) + i, i, 99);
            x.folk(i, i);
        }
        for (int use = 0; use < 2; use++) {
            for (int i = 0; i < 25; i++) {
                x.feed(i < 24 ? 0x2b73 : 0x3173, 1 + (i < 24 ? 1 : 0));
            }
            Checks.due("the text of " + use, x.text(use), 1);
        }
        x.sheet(0, 8, 6);
        x.sheet(1, 8, 6);
        return x;
    }

    private static int dearCall(WellTold x, int act) {
        switch (act) {
            case 0: return x.hours(1);
            case 1: return x.loose(1);
            case 2: return x.then(99, 0);
            case 3: return x.learns(0, 0);
            case 4: return x.calls(0, 99, 1, 2);
            case 5: return x.stops(0, 0, 10);
            case 6: return x.who(0, 99);
            case 7: return x.loud(0, 0, 20, 0);
            case 8: return x.alike(99);
            case 9: return x.furthest(99, 0);
            case 10: return x.odds(0, 0, 99, 0);
            case 11: return x.voice(0, 3, 1);
            case 12: return x.move(0, 0, 1, 0, 6);
            case 13: return x.image();
            case 14: return x.restore();
            case 15: return x.tell(5) + x.check();
            case 16: return x.sheet(2, 16, 40);
            default: return x.feed(0x2b73, 2) + x.text(0);
        }
    }
}
