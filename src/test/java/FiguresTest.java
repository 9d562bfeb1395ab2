/** Promises 7, 8, 9, 17 and 55: walker, shelter, gap, order, count; and what STRIDE is by THE LAW. */
public final class FiguresTest {
    static final String FOUR = "long 60;walker at 0 pace 7;walker at 10 pace 3 black;walker at 25 pace 12;"
        + "walker at 50 pace 20 black;shuns 2 3;shelter at 12 seats 1;shelter at 30 seats 2;band 5;mist 40;hour 9";

    public static void main(String[] args) {
        walkers();
        strides();
        figuresInLaws();
        conditions();
        shelters();
        gaps();
        orders();
        counts();
        Check.end("FiguresTest");
    }

    private static void row(PromenadeRing ring, int walker, int... due) {
        for (int what = 0; what < due.length; what++) {
            Check.due("walker(" + walker + ", " + what + ")", due[what], ring.walker(walker, what));
        }
    }

    private static void walkers() {
        PromenadeRing ring = Check.ring(FOUR);
        row(ring, 0, 0, 7, 0, 0, 0, 0, 0, 7, 1, 10, 12, 0, 0, 0);
        row(ring, 2, 25, 12, 8, 0, 0, 0, 0, 12, 3, 25, 5);
        row(ring, 3, 50, 20, 0, 1, 0, 0, 0, 20, 0, 10, 22);
        Check.due("SHUNNED", 4, ring.walker(3, 12));
        ring.hours(2);
        // HOUR 9: 3 comes by 0. HOUR 10: 0 by 1 and 3, 1 by 0, 3 by 0 and 1.
        row(ring, 0, 14, 7, 0, 0, 5, 0, 10);
        row(ring, 1, 16, 3, 0, 1, 3, 0, 9);
        row(ring, 2, 49, 12, 8, 0, 0, 0, 0);
        row(ring, 3, 30, 20, 0, 1, 4, 1, 3);
        Check.due("SHARE of 0", 41, ring.walker(0, 13));
        Check.due("SHARE of 1", 25, ring.walker(1, 13));
        Check.due("SHARE of 2", 0, ring.walker(2, 13));
        Check.due("SHARE of 3", 33, ring.walker(3, 13));
        Check.index("walker(4, 0)", () -> ring.walker(4, 0));
        Check.index("walker(-1, 99)", () -> ring.walker(-1, 99));
        Check.element("walker(0, 14)", () -> ring.walker(0, 14));
        Check.element("walker(0, -1)", () -> ring.walker(0, -1));
        PromenadeRing one = Check.ring("walker at 5 pace 1");
        row(one, 0, 5, 1, 0, 0, 0, 0, 0, 1, -1, -1, -1, 0, 0, 0);
        PromenadeRing three = Check.ring("long 10;walker at 4 pace 1;walker at 4 pace 1;walker at 4 pace 2;walker at 3 pace 0");
        Check.due("AHEAD of several is the least", 0, three.walker(3, 8));
        Check.due("AHEAD at one PLACE", 1, three.walker(0, 8));
        Check.due("GAP at one PLACE", 0, three.walker(0, 9));
        Check.due("NEVER: 1 goes behind 0 and so comes by it", 0, three.walker(0, 11));
        // 0 and 1 go alike for good, two yards from one another; 2 comes by both, and all by 3, which stands.
        PromenadeRing alike = Check.ring("long 10;walker at 4 pace 1;walker at 6 pace 1;walker at 4 pace 2;walker at 3 pace 0");
        Check.due("NEVER", 2, alike.walker(0, 11));
        Check.due("NEVER of 2", 0, alike.walker(2, 11));
    }

    private static void strides() {
        PromenadeRing ring = Check.ring("long 50;walker at 0 pace 40;walker at 0 pace 2");
        Check.due("without a law", 40, ring.walker(0, 7));
        Check.law(ring, "haste 9");
        Check.due("to the last", 49, ring.walker(0, 7));
        Check.law(ring, "haste 30");
        Check.due("LONG less 1 at most", 49, ring.walker(0, 7));
        Check.law(ring, "slow 3");
        Check.due("0 at least", 0, ring.walker(1, 7));
        Check.law(ring, "slow 90;haste 60;haste 39");
        Check.due("all together, then the bounds", 49, ring.walker(0, 7));
        Check.due("of the other one", 11, ring.walker(1, 7));
        Check.law(ring, "haste 5;stop if walker > 0;haste 5");
        Check.due("no stop", 49, ring.walker(0, 7));
        Check.due("stop", 0, ring.walker(1, 7));
        Check.due("PACE stays", 2, ring.walker(1, 1));
        PromenadeRing small = Check.ring("long 10;walker at 0 pace 99");
        Check.due("PACE above LONG", 9, small.walker(0, 7));
    }

    private static void figuresInLaws() {
        PromenadeRing ring = Check.ring(FOUR);
        Check.law(ring, "slow 3 if black;haste 5 if gap < 11");
        int[] due = {12, 0, 12, 22};
        for (int w = 0; w < 4; w++) {
            Check.due("black and gap: " + w, due[w], ring.walker(w, 7));
        }
        PromenadeRing walked = Check.ring(FOUR);
        walked.hours(2);
        sole(walked, "at > 15 and at < 17", 1);
        sole(walked, "pace > 19", 3);
        sole(walked, "walker + 1 > 2 and walker < 3", 2);
        sole(walked, "hats > 4", 0);
        sole(walked, "rounds > 0", 3);
        sole(walked, "met < 1", 2);
        sole(walked, "met > 1 and hats < 4", 1);
        sole(walked, "gap < 3", 0);
        PromenadeRing alone = Check.ring("long 77;walker at 3 pace 5");
        sole(alone, "gap > 76 and gap < 78", 0);
        PromenadeRing band = Check.ring("long 60;band 5;walker at 5 pace 1;walker at 56 pace 1;walker at 55 pace 1;walker at 6 pace 1");
        Check.law(band, "haste 1 if hears");
        int[] hears = {2, 2, 1, 1};
        for (int w = 0; w < 4; w++) {
            Check.due("hears: " + w, hears[w], band.walker(w, 7));
        }
        Check.law(band, "haste 1 if misty");
        Check.due("not MISTY", 1, band.walker(0, 7));
        Check.promenade(band, "misty");
        Check.due("MISTY", 2, band.walker(0, 7));
    }

    /** That the condition holds of this one alone. */
    private static void sole(PromenadeRing ring, String condition, int walker) {
        Check.law(ring, "stop if not (" + condition + ");haste 1");
        for (int w = 0; w < ring.count(0); w++) {
            int due = w == walker ? ring.walker(w, 1) + 1 : 0;
            Check.due(condition + ": " + w, due, ring.walker(w, 7));
        }
    }

    private static void conditions() {
        PromenadeRing ring = Check.ring("walker at 7 pace 10 black");
        holds(ring, "black or misty and misty", true);
        holds(ring, "(black or misty) and misty", false);
        holds(ring, "misty and black or black", true);
        holds(ring, "misty or misty or black", true);
        holds(ring, "black and black and misty", false);
        holds(ring, "not misty and black", true);
        holds(ring, "not (misty and black)", true);
        holds(ring, "not not black", true);
        holds(ring, "not not not black", false);
        holds(ring, "not misty or black and misty", true);
        holds(ring, "5 < 5", false);
        holds(ring, "5 > 5", false);
        holds(ring, "at < pace", true);
        holds(ring, "at > pace", false);
        holds(ring, "at + 3 < pace", false);
        holds(ring, "at + 2 + 0 < pace", true);
        holds(ring, "1 + 2 + 3 > 1 + 1 + 3", true);
        holds(ring, "not 1 > 2", true);
    }

    private static void holds(PromenadeRing ring, String condition, boolean due) {
        Check.law(ring, "haste 5 if " + condition);
        Check.due(condition, due ? 15 : 10, ring.walker(0, 7));
    }

    private static void shelters() {
        PromenadeRing ring = Check.ring(FOUR);
        Check.due("PLACE", 12, ring.shelter(0, 0));
        Check.due("SEATS", 2, ring.shelter(1, 1));
        // With 30 kept: 50 would have 40 to 30; at 0 to 9 all FAR are 30 less than that.
        Check.due("BEST", 0, ring.shelter(0, 2));
        Check.due("BEST of the other one", 25, ring.shelter(1, 2));
        Check.due("BEST moves nothing", 12, ring.shelter(0, 0));
        Check.index("shelter(2, 0)", () -> ring.shelter(2, 0));
        Check.index("shelter(-1, 9)", () -> ring.shelter(-1, 9));
        Check.element("shelter(0, 3)", () -> ring.shelter(0, 3));
        Check.element("shelter(0, -1)", () -> ring.shelter(0, -1));
        Check.due("BEST without WALKERS", 33, Check.ring("shelter at 33 seats 1").shelter(0, 2));
        Check.due("BEST of one for one", 8, Check.ring("walker at 8 pace 1;shelter at 33 seats 1").shelter(0, 2));
        Check.due("BEST for 8 and 20", 20, Check.ring("walker at 8 pace 1;walker at 20 pace 0;shelter at 3 seats 1").shelter(0, 2));
    }

    private static void gaps() {
        PromenadeRing ring = Check.ring("long 60");
        Check.due("gap on", 40, ring.gap(10, 50));
        Check.due("gap over 0", 20, ring.gap(50, 10));
        Check.due("gap to itself", 0, ring.gap(59, 59));
        Check.due("gap 59 to 0", 1, ring.gap(59, 0));
        Check.due("gap 0 to 59", 59, ring.gap(0, 59));
        Check.index("gap(0, 60)", () -> ring.gap(0, 60));
        Check.index("gap(60, 0)", () -> ring.gap(60, 0));
        Check.index("gap(-1, 0)", () -> ring.gap(-1, 0));
        Check.index("gap(0, -1)", () -> ring.gap(0, -1));
    }

    private static void orders() {
        PromenadeRing ring = Check.ring("long 20;walker at 10 pace 0;walker at 5 pace 0;walker at 12 pace 0;walker at 10 pace 0;walker at 5 pace 1");
        int[] due = {0, 3, 2, 1, 4, -1};
        for (int k = 0; k < due.length; k++) {
            Check.due("order(" + k + ")", due[k], ring.order(k));
        }
        Check.due("order(-1)", -1, ring.order(-1));
        Check.due("order of nobody", -1, new PromenadeRing().order(0));
    }

    private static void counts() {
        PromenadeRing ring = Check.ring(FOUR);
        Check.law(ring, "haste 0;slow 0");
        ring.hours(1);
        ring.hours(1);
        int[] due = {4, 2, 1, 2, 60, 5, 11, 0, 12, 6, 2, -1, -1};
        for (int what = 0; what < due.length; what++) {
            Check.due("count(" + what + ")", due[what], ring.count(what));
        }
        Check.due("count(-1)", -1, ring.count(-1));
    }
}
