/** The bounds that "Terms" tells of what there is: just inside, just outside, at first, and full. */
public final class EdgeTermsTest {
    public static void main(String[] args) {
        lengths();
        places();
        sevenWalkers();
        paces();
        atFirst();
        shelters();
        band();
        hour();
        mist();
        Check.end("EdgeTermsTest");
    }

    private static void lengths() {
        Check.says("LONG 10 to 200 yards (100 at first)");
        Check.due("at first", 100, new PromenadeRing().count(4));
        Check.due("the least", 10, Check.ring("long 10").count(4));
        Check.due("the most", 200, Check.ring("long 200").count(4));
        PromenadeRing ring = Check.ring("long 77");
        for (String wrong : new String[] {"9", "201", "0", "999"}) {
            Check.wrongPromenade(ring, "long " + wrong, 5);
        }
        Check.due("it stays", 77, ring.count(4));
    }

    private static void places() {
        Check.says("PLACES 0 to LONG less 1, one behind another, 0 behind the last one");
        for (int yards : new int[] {10, 100, 200}) {
            PromenadeRing ring = Check.ring("long " + yards);
            Check.says("GAP from a PLACE to another one: how many yards on it is (0 to LONG less 1).");
            Check.due("from the last to 0", 1, ring.gap(yards - 1, 0));
            Check.due("from 0 to the last", yards - 1, ring.gap(0, yards - 1));
            Check.due("from 1 to 0", yards - 1, ring.gap(1, 0));
            Check.due("from the last to itself", 0, ring.gap(yards - 1, yards - 1));
            Check.says("`int gap(int place, int other) throws IndexOutOfBoundsException`: GAP of two PLACES.");
            for (int none : new int[] {-1, yards, Integer.MAX_VALUE, Integer.MIN_VALUE}) {
                Check.index("from " + none, () -> ring.gap(none, 0));
                Check.index("to " + none, () -> ring.gap(0, none));
                Check.index("from and to " + none, () -> ring.gap(none, none));
            }
        }
    }

    private static void sevenWalkers() {
        Check.says("WALKERS (at most 7, numbered from 0 on)");
        PromenadeRing ring = new PromenadeRing();
        for (int n = 0; n < 7; n++) {
            int next = n;
            Check.index("no WALKER " + n + " yet", () -> ring.walker(next, 0));
            Check.due("WALKER " + n, n, ring.out(n));
            Check.due("it is there", n, ring.walker(n, 1));
        }
        Check.index("no WALKER 7", () -> ring.walker(7, 0));
        Check.state("an eighth one", () -> ring.out(1));
        Check.wrongPromenade(ring, "walker at 0 pace 1", 0);
        Check.due("seven", 7, ring.count(0));
        PromenadeRing told = Check.ring("walker at 1 pace 1;walker at 2 pace 1;walker at 3 pace 1;walker at 4 pace 1;walker at 5 pace 1");
        Check.due("the sixth one sets out", 5, told.out(1));
        Check.promenade(told, "walker at 7 pace 1");
        Check.due("the seventh one is told", 7, told.walker(6, 0));
        Check.state("the eighth one cannot", () -> told.out(1));
        Check.wrongPromenade(told, "hour 5;  walker at 8 pace 1", 9);
        told.undo();
        Check.state("a text is not undone", () -> told.out(1));
    }

    private static void paces() {
        Check.says("PACE 0 to 99 yards each HOUR");
        PromenadeRing ring = Check.ring("walker at 0 pace 0;walker at 0 pace 99");
        Check.due("the least", 0, ring.walker(0, 1));
        Check.due("the most", 99, ring.walker(1, 1));
        Check.wrongPromenade(ring, "walker at 0 pace 100", 17);
        Check.due("out of the least", 2, ring.out(0));
        Check.due("out of the most", 3, ring.out(99));
        Check.due("none came else", 4, ring.count(0));
        Check.due("told the most", 0, ring.pace(0, 99));
        Check.due("told the least", 99, ring.pace(0, 0));
        ring.pace(0, 99);
        Check.due("yards an HOUR", 99, ring.where(0, 1));
    }

    private static void atFirst() {
        Check.says("SHUNS some WALKERS, as bits (none at first), in BLACK or not (not at first), HATS 0 to 999, "
            + "ROUNDS 0 to 999 (0 at first, both), MET some, as bits (none at first)");
        PromenadeRing ring = Check.ring("walker at 9 pace 8");
        ring.out(8);
        for (int w = 0; w < 2; w++) {
            for (int what = 2; what <= 6; what++) {
                Check.due("at first walker(" + w + ", " + what + ")", 0, ring.walker(w, what));
            }
        }
    }

    private static void shelters() {
        Check.says("SHELTERS (at most 4, numbered from 0 on): AT a PLACE, SEATS 1 to 3");
        PromenadeRing ring = new PromenadeRing();
        for (int n = 0; n < 4; n++) {
            int next = n;
            Check.index("no SHELTER " + n + " yet", () -> ring.shelter(next, 0));
            Check.promenade(ring, "shelter at 9" + n + " seats " + (1 + n % 3));
            Check.due("its PLACE", 90 + n, ring.shelter(n, 0));
            Check.due("its SEATS", 1 + n % 3, ring.shelter(n, 1));
        }
        Check.index("no SHELTER 4", () -> ring.shelter(4, 0));
        Check.wrongPromenade(ring, "shelter at 0 seats 1", 0);
        Check.wrongPromenade(ring, "misty; shelter at 0 seats 1", 7);
        Check.due("four", 4, ring.count(1));
        PromenadeRing seats = new PromenadeRing();
        Check.wrongPromenade(seats, "shelter at 0 seats 0", 19);
        Check.wrongPromenade(seats, "shelter at 0 seats 4", 19);
        Check.due("none", 0, seats.count(1));
    }

    private static void band() {
        Check.says("BAND: a PLACE (0 at first)");
        PromenadeRing ring = new PromenadeRing();
        Check.due("at first", 0, ring.count(5));
        Check.promenade(ring, "band 99");
        Check.due("the last PLACE", 99, ring.count(5));
        Check.wrongPromenade(ring, "band 100", 5);
        Check.due("it stays", 99, ring.count(5));
        Check.promenade(ring, "band 0");
        Check.due("the first PLACE", 0, ring.count(5));
        Check.wrongPromenade(ring, "long 10;band 10", 13);
        Check.due("by the new LONG", 3, Check.promenade(ring, "long 10;band 9"));
        Check.due("the last of ten", 9, ring.count(5));
    }

    private static void hour() {
        Check.says("HOUR 0 to 9999 (0 at first)");
        PromenadeRing ring = new PromenadeRing();
        Check.due("at first", 0, ring.count(6));
        Check.due("one more", 0, ring.hours(1));
        Check.due("HOUR 1", 1, ring.count(6));
        Check.promenade(ring, "hour 999");
        for (int i = 0; i < 44; i++) {
            ring.hours(200);
        }
        Check.says("HOUR is 1 more (9999 at most).");
        ring.hours(199);
        Check.due("just below the most", 9998, ring.count(6));
        ring.hours(1);
        Check.due("the most", 9999, ring.count(6));
        ring.hours(1);
        Check.due("not more", 9999, ring.count(6));
        ring.hours(200);
        Check.due("nor by more", 9999, ring.count(6));
    }

    private static void mist() {
        Check.says("MIST 0 to 100 (0 at first); it is MISTY or not (not at first)");
        PromenadeRing ring = new PromenadeRing();
        Check.due("MIST at first", 0, ring.odds(1, 1));
        Check.due("not MISTY at first", 0, ring.count(7));
        Check.promenade(ring, "mist 100");
        Check.due("the most", 10000, ring.odds(1, 1));
        Check.due("MIST alone does not make it MISTY", 0, ring.count(7));
        Check.wrongPromenade(ring, "mist 101", 5);
        Check.due("it stays", 10000, ring.odds(1, 1));
        Check.promenade(ring, "mist 0;misty");
        Check.due("the least", 0, ring.odds(1, 1));
        Check.due("MISTY without MIST", 1, ring.count(7));
    }
}
