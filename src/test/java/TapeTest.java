/** Promises 1 to 3: a new object, feed, end. */
public final class TapeTest {
    public static void main(String[] args) {
        newObject();
        feeding();
        ending();
        Check.end("TapeTest");
    }

    private static void newObject() {
        PromenadeRing ring = new PromenadeRing();
        int[] due = {0, 0, 0, -1, 100, 0, 0, 0, 0, 0, 0};
        for (int what = 0; what < due.length; what++) {
            Check.due("new: count(" + what + ")", due[what], ring.count(what));
        }
        Check.due("new: fault()", -1, ring.fault());
        Check.due("new: seed(5)", 1, ring.seed(5));
        Check.due("new: undo()", false, ring.undo());
        Check.due("new: back()", false, ring.back());
        Check.due("new: order(0)", -1, ring.order(0));
        Check.due("new: black()", 0, ring.black());
        Check.due("new: log(0, 0)", -1, ring.log(0, 0));
        Check.due("NONE", -1, PromenadeRing.NONE);
        Check.index("new: walker(0, 0)", () -> ring.walker(0, 0));
        Check.index("new: shelter(0, 0)", () -> ring.shelter(0, 0));
        PromenadeRing other = new PromenadeRing();
        other.out(5);
        Check.due("objects share nothing", 0, ring.count(0));
    }

    private static void feeding() {
        PromenadeRing ring = new PromenadeRing();
        for (int n = 20; n <= 400; n += 20) {
            Check.due("feed to " + n, n, ring.feed(0x20202020, 0x20202020, 0x20202020, 0x20202020, 0x20202020));
        }
        Check.due("feed over 400", -1, ring.feed(0x61616161, 0, 0, 0, 0));
        Check.due("none came", 1, ring.promenade());
        Check.due("the TAPE was used up", 20, ring.feed(0, 0, 0, 0, 0));
        ring.end(0);
        for (int i = 0; i < 19; i++) {
            ring.feed(0, 0, 0, 0, 0);
        }
        ring.end(380);
        Check.due("381 would be 401", true, ring.end(380));
        Check.due("380 and 20", 400, ring.feed(0, 0, 0, 0, 0));
        ring.end(381);
        Check.due("381 and 20", -1, ring.feed(0, 0, 0, 0, 0));
        Check.due("and none came", false, ring.end(382));
    }

    private static void ending() {
        PromenadeRing ring = new PromenadeRing();
        Check.due("end(0) of none", true, ring.end(0));
        Check.due("end(1) of none", false, ring.end(1));
        // "long" comes, is cut behind its g, and " 23 hello.." comes behind it: the bytes' order is told by what is read.
        ring.feed(0x6c6f6e67, 0x61616161, 0, 0, 0);
        Check.due("end(-1)", false, ring.end(-1));
        Check.due("end(21)", false, ring.end(21));
        Check.due("end(20)", true, ring.end(20));
        Check.due("end(4)", true, ring.end(4));
        Check.due("end(5) behind end(4)", false, ring.end(5));
        Check.due("feed behind 4", 24, ring.feed(0x20323300, 0, 0, 0, 0));
        ring.end(7);
        Check.due("long 23", 1, ring.promenade());
        Check.due("LONG", 23, ring.count(4));
        // A byte above 127 is a byte like others, and wrong just where it stands.
        ring.feed(0x686f7572, 0xff000000, 0, 0, 0);
        ring.end(5);
        Check.argument("a byte of 255", ring::promenade);
        Check.due("its place", 4, ring.fault());
    }
}
