/** Promises 22 to 25: alone, both, period, stands. */
public final class AloneTest {
    public static void main(String[] args) {
        alone();
        both();
        period();
        stands();
        Check.end("AloneTest");
    }

    private static void alone() {
        PromenadeRing ring = Check.ring(FiguresTest.FOUR);
        Check.due("at once", 0, ring.alone(3, 50));
        Check.due("7 n is 10 by 60", 10, ring.alone(0, 10));
        Check.due("12 n and 25 is 1 by 60", 3, ring.alone(2, 1));
        Check.due("3 n and 10 is 0 by 60", -1, ring.alone(1, 0));
        Check.index("alone(4, 0)", () -> ring.alone(4, 0));
        Check.index("alone(0, 60)", () -> ring.alone(0, 60));
        Check.index("alone(0, -1)", () -> ring.alone(0, -1));
        PromenadeRing slow = Check.ring("long 200;walker at 1 pace 1;walker at 0 pace 0;walker at 150 pace 0;shuns 0 2");
        Check.law(slow, "stop");
        Check.due("without a law, by nobody", 199, slow.alone(0, 0));
        Check.due("standing", 0, slow.alone(1, 0));
        Check.due("standing elsewhere", -1, slow.alone(1, 1));
        PromenadeRing fast = Check.ring("long 10;walker at 0 pace 99");
        Check.due("PACE is not less by LONG", 1, fast.alone(0, 9));
        PromenadeRing over = Check.ring("long 11;walker at 0 pace 22;walker at 0 pace 25");
        Check.due("22 by 11", -1, over.alone(0, 10));
        Check.due("25 by 11", 1, over.alone(1, 3));
    }

    private static void both() {
        PromenadeRing ring = Check.ring(FiguresTest.FOUR);
        Check.due("0 and 3", 10, ring.both(0, 3));
        Check.due("3 and 0", 10, ring.both(3, 0));
        Check.due("0 and 1", -1, ring.both(0, 1));
        Check.argument("one", () -> ring.both(1, 1));
        Check.index("both(4, 4)", () -> ring.both(4, 4));
        Check.index("both(0, 4)", () -> ring.both(0, 4));
        Check.index("both(-1, 0)", () -> ring.both(-1, 0));
        PromenadeRing same = Check.ring("walker at 5 pace 3;walker at 5 pace 4");
        Check.due("at once", 0, same.both(0, 1));
        PromenadeRing late = Check.ring("long 200;walker at 1 pace 1;walker at 0 pace 0");
        Check.due("late", 199, late.both(0, 1));
    }

    private static void period() {
        PromenadeRing ring = Check.ring(FiguresTest.FOUR);
        int[] due = {60, 20, 5, 3};
        for (int w = 0; w < 4; w++) {
            Check.due("period(" + w + ")", due[w], ring.period(w));
        }
        Check.index("period(4)", () -> ring.period(4));
        Check.index("period(-1)", () -> ring.period(-1));
        PromenadeRing odd = Check.ring("long 20;walker at 7 pace 0;walker at 7 pace 20;walker at 7 pace 40;walker at 3 pace 30;walker at 0 pace 99");
        int[] other = {1, 1, 1, 2, 20};
        for (int w = 0; w < other.length; w++) {
            Check.due("period by 20 of " + w, other[w], odd.period(w));
        }
        Check.due("period of 200", 200, Check.ring("long 200;walker at 9 pace 1").period(0));
    }

    private static void stands() {
        PromenadeRing ring = Check.ring(FiguresTest.FOUR);
        Check.due("as it goes", 0, ring.stands(3, 1, 1));
        Check.due("it stands", 1, ring.stands(3, 0, 1));
        Check.due("it cannot", -1, ring.stands(3, 2, 1));
        Check.due("others come by it", -1, ring.stands(0, 0, 1));
        Check.due("itself counts for nothing", 0, ring.stands(0, 9, 1));
        Check.due("others than there are, too", 0, ring.stands(0, -16 | 8, 1));
        Check.due("nothing stays", 50, ring.walker(3, 0));
        Check.argument("stands(0, 0, 0)", () -> ring.stands(0, 0, 0));
        Check.argument("stands(0, 0, 7)", () -> ring.stands(0, 0, 7));
        Check.index("stands(4, 0, 7)", () -> ring.stands(4, 0, 7));
        Check.index("stands(-1, 0, 1)", () -> ring.stands(-1, 0, 1));
        // 0 goes 5 yards an HOUR to one that stands at 20, and to one at 24: by neither in 3 HOURS, by one in 4, by both in 5.
        PromenadeRing way = Check.ring("long 100;walker at 0 pace 5;walker at 20 pace 0;walker at 24 pace 0");
        Check.due("both in 5", 0, way.stands(0, 6, 5));
        Check.due("one in 5: one HOUR, the next", 1, way.stands(0, 2, 5));
        Check.due("none in 5: two HOURS, the next", 3, way.stands(0, 0, 5));
        Check.due("none in 6: three", 7, way.stands(0, 0, 6));
        Check.due("the farther one alone", -1, way.stands(0, 4, 6));
        // 1 is 11 yards behind and goes 11: it comes by if 0 stands still.
        PromenadeRing by = Check.ring("long 100;walker at 30 pace 10;walker at 19 pace 11");
        Check.due("it goes on ahead", 0, by.stands(0, 0, 1));
        Check.due("it lets the other one come by", 1, by.stands(0, 2, 1));
        // Having come by 1, 0 goes 35 yards and so comes by 2, unless it stands in two of three HOURS.
        PromenadeRing law = Check.ring("long 100;walker at 0 pace 5;walker at 4 pace 0;walker at 40 pace 0");
        Check.law(law, "haste 30 if met > 0 and walker < 1");
        Check.due("all else IN N HOURS", 0, law.stands(0, 6, 3));
        Check.due("by the first one alone", 3, law.stands(0, 2, 3));
        Check.due("by neither", 7, law.stands(0, 0, 3));
    }
}
