import java.lang.management.ManagementFactory;

/** All calls of a run live in one room: a new object takes little, and its calls take nothing more. */
public final class RoomTest {
    private static final com.sun.management.ThreadMXBean THREADS =
        (com.sun.management.ThreadMXBean) ManagementFactory.getThreadMXBean();

    public static void main(String[] args) {
        GrassPark p = made();
        everyCall(p);
        long before = taken();
        GrassPark q = new GrassPark();
        long each = taken() - before;
        Check.due("a new object takes less than 300,000 bytes, it took " + each, each < 300000, true);
        Check.due("it is new", q.count(9), 0);
        before = taken();
        for (int i = 0; i < 8; i++) {
            everyCall(p);
        }
        long more = taken() - before;
        Check.due("calls take no room, they took " + more, more < 4000, true);
        System.exit(Check.end("room"));
    }

    private static long taken() {
        return THREADS.getThreadAllocatedBytes(Thread.currentThread().getId());
    }

    private static GrassPark made() {
        GrassPark p = new GrassPark();
        Check.bytes(p, new int[256]);
        p.park(16, 16);
        for (int c : new int[] {0, 15, 240, 255, 120, 7}) {
            p.door(c);
        }
        Check.habit(p, 0, "weigh line 3 if not (worn and wet > 5); weigh crowd 2; sight 9;");
        for (int k = 0; k < 12; k++) {
            p.wish(k % 6, (k + 1) % 6, k % 2, 2 + k, 0);
        }
        return p;
    }

    private static void everyCall(GrassPark p) {
        p.run(100);
        p.week();
        p.rain(40);
        p.rests(10, 30);
        p.turns(0, 2, 30, 5);
        p.paved(2, 4, 20, 1);
        p.wait(4, 20);
        p.lasts(0, 17, 10, 20);
        p.feed(0x00010203, 0x04050000, 0, 0, 0);
        p.end(6);
        p.least();
        p.longer(0, 3);
        p.net();
        p.pieces();
        p.feed(0x30313233, 0, 0, 0, 0);
        p.end(4);
        p.fences(100, 20);
        p.fenceAt(0);
        p.way(0, 3, 0);
        p.wayAt(2);
        p.snow();
        p.feed(0x00010000, 0x01000001, 0, 0, 0);
        p.end(9);
        p.read();
        p.reads(0, 0);
        p.feed(0x00010000, 0x01000001, 0, 0, 0);
        p.fits(0, 1);
        // 'grow 9 if worn;', then a FAULT
        p.feed(0x67726f77, 0x20392069, 0x6620776f, 0x726e3b20, 0x20202020);
        p.law();
        p.feed(0x67726f77, 0x20392069, 0x6620776f, 0x726e3b20, 0x20206120);
        p.habit(1);
        p.fault();
        p.image(0);
        p.restore(0);
        p.lay(33, 2);
        p.cell(33, 3);
        p.walker(0, 0);
        p.count(3);
    }
}
