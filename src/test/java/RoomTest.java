import java.lang.management.ManagementFactory;

/** All calls of one run live in one room: an object is made small, and calls that answer make nothing. */
public final class RoomTest {
    private static final com.sun.management.ThreadMXBean THREADS =
        (com.sun.management.ThreadMXBean) ManagementFactory.getThreadMXBean();

    public static void main(String[] args) {
        new PromenadeRing();
        long before = made();
        PromenadeRing ring = new PromenadeRing();
        long size = made() - before;
        System.out.println("an object takes " + size + " bytes");
        Check.due("an object takes less than 60000 bytes", true, size < 60000);

        Check.promenade(ring, FiguresTest.FOUR);
        Check.law(ring, "haste 5 if gap < 11 or black and not misty;slow 2 if hears");
        ring.image();
        run(ring);
        before = made();
        for (int i = 0; i < 8; i++) {
            run(ring);
        }
        long more = made() - before;
        System.out.println("calls took " + more + " bytes");
        Check.due("calls that answer make nothing", true, more < 4000);
        Check.end("RoomTest");
    }

    private static long made() {
        return THREADS.getThreadAllocatedBytes(Thread.currentThread().getId());
    }

    private static int run(PromenadeRing ring) {
        int sum = ring.hours(20) + ring.pace(0, 9) + ring.lad(1) + ring.move(0, 5);
        sum += ring.where(0, 50) + ring.up(0, 1) + ring.circle(2, 200) + ring.laps(3, 99) + ring.walker(1, 11);
        sum += ring.stands(0, 14, 6) + ring.alone(0, 5) + ring.both(0, 1) + ring.period(2) + ring.shelter(1, 2);
        sum += ring.backs(-1) + ring.ask() + ring.round(true) + ring.tries() + ring.calls(0, 3, 9) + ring.told(1, 9);
        sum += ring.ear() + ring.farthest() + ring.few(20) + ring.seated(2) + ring.swaps() + ring.chase(3, 20);
        sum += ring.couples(1) + ring.rests(0, 1) + ring.odds(5, 2) + ring.stretch() + ring.fastest(true) + ring.popular();
        sum += ring.twins() + ring.bunch(9) + ring.trial(50, true) + ring.span(50, false) + ring.led(0, true) + ring.log(5, 2);
        // "stop" and "hour 9" as texts.
        ring.feed(0x73746f70, 0, 0, 0, 0);
        ring.end(4);
        sum += ring.law();
        ring.back();
        ring.feed(0x686f7572, 0x20390000, 0, 0, 0);
        ring.end(6);
        sum += ring.promenade() + ring.count(10);
        ring.back();
        return sum + (ring.undo() ? 1 : 0);
    }
}
