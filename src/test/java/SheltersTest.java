/** Promises 33 to 36: farthest, few, seated, swaps. */
public final class SheltersTest {
    public static void main(String[] args) {
        farthest();
        few();
        seated();
        swaps();
        Check.end("SheltersTest");
    }

    private static void farthest() {
        PromenadeRing ring = Check.ring(FiguresTest.FOUR);
        Check.due("farthest", 3, ring.farthest());
        Check.due("nobody", -1, Check.ring("shelter at 5 seats 1").farthest());
        Check.due("no SHELTERS", -1, Check.ring("walker at 5 pace 1").farthest());
        Check.due("of several the least", 1,
            Check.ring("shelter at 5 seats 1;walker at 5 pace 1;walker at 4 pace 1;walker at 4 pace 1").farthest());
        Check.due("FAR of 0, too", 0, Check.ring("shelter at 5 seats 1;walker at 5 pace 1").farthest());
        Check.due("just by it is the farthest", 1,
            Check.ring("shelter at 5 seats 1;walker at 7 pace 1;walker at 6 pace 1").farthest());
    }

    private static void few() {
        PromenadeRing ring = Check.ring(FiguresTest.FOUR);
        Check.due("by both", 3, ring.few(22));
        Check.due("not by both", -1, ring.few(21));
        Check.due("by the second alone", 2, ring.few(40));
        Check.due("not by it", 3, ring.few(39));
        Check.due("by the first alone", 1, ring.few(47));
        Check.due("not by the first", 2, ring.few(46));
        Check.due("199", 1, ring.few(199));
        Check.argument("few(200)", () -> ring.few(200));
        Check.argument("few(-1)", () -> ring.few(-1));
        Check.due("without WALKERS", 0, Check.ring("shelter at 5 seats 1").few(0));
        Check.due("without all", 0, new PromenadeRing().few(0));
        Check.due("without SHELTERS", -1, Check.ring("walker at 5 pace 1").few(199));
        Check.due("just there", 4,
            Check.ring("walker at 5 pace 1;shelter at 6 seats 1;shelter at 4 seats 1;shelter at 5 seats 1").few(0));
        Check.due("two of four, the least as bits", 5,
            Check.ring("walker at 5 pace 1;walker at 50 pace 1;shelter at 5 seats 1;shelter at 5 seats 1;shelter at 50 seats 1;shelter at 50 seats 1").few(0));
    }

    private static void row(PromenadeRing ring, int... due) {
        int many = 0;
        for (int w = 0; w < due.length; w++) {
            Check.due("seated(" + w + ")", due[w], ring.seated(w));
            many += due[w] >= 0 ? 1 : 0;
        }
        Check.due("how many", many, ring.seated(-1));
    }

    private static void seated() {
        PromenadeRing ring = Check.ring(FiguresTest.FOUR);
        row(ring, 0, 1, 1, -1);
        Check.index("seated(4)", () -> ring.seated(4));
        Check.index("seated(-2)", () -> ring.seated(-2));
        row(Check.ring("walker at 5 pace 1;walker at 6 pace 1"), -1, -1);
        Check.due("nobody", 0, Check.ring("shelter at 5 seats 3").seated(-1));
        // Two who are alike and one seat: the first one has it, and none stands behind all.
        row(Check.ring("walker at 5 pace 1;walker at 5 pace 1;shelter at 9 seats 1"), 0, -1);
        row(Check.ring("walker at 5 pace 1;walker at 6 pace 1;shelter at 9 seats 1"), -1, 0);
        // As many as can be are seated, though GAPS are more; both ways are 99 yards, and the first one is taken.
        row(Check.ring("walker at 5 pace 1;walker at 6 pace 1;shelter at 6 seats 1;shelter at 4 seats 1"), 0, 1);
        row(Check.ring("walker at 5 pace 1;walker at 6 pace 1;shelter at 4 seats 1;shelter at 6 seats 1"), 0, 1);
        row(Check.ring("walker at 9 pace 1;walker at 6 pace 1;shelter at 6 seats 1;shelter at 9 seats 1"), 1, 0);
        row(Check.ring("walker at 5 pace 1;shelter at 9 seats 3;shelter at 9 seats 3"), 0);
        row(Check.ring("walker at 8 pace 1;walker at 8 pace 1;walker at 8 pace 1;walker at 8 pace 1;shelter at 9 seats 3;shelter at 8 seats 2"), 0, 0, 1, 1);
        // Six seats for seven, 15 yards in all; of such ways 2 in SHELTER 1 is the first.
        row(Check.ring("long 10;walker at 0 pace 1;walker at 1 pace 1;walker at 2 pace 1;walker at 3 pace 1;walker at 4 pace 1;walker at 5 pace 1;"
            + "walker at 6 pace 1;shelter at 0 seats 1;shelter at 3 seats 1;shelter at 5 seats 1;shelter at 9 seats 3"), 0, -1, 1, 2, 3, 3, 3);
    }

    private static void swaps() {
        Check.due("four", 0, Check.ring(FiguresTest.FOUR).swaps());
        Check.due("nobody", 0, new PromenadeRing().swaps());
        Check.due("crossed", 0, Check.ring("walker at 5 pace 1;walker at 50 pace 1;shelter at 50 seats 1;shelter at 5 seats 1").swaps());
    }
}
