/** The edges of who is where and when: ORDER, WHERE, UP, CIRCLE, NEVER, LAPS, ALONE, BOTH, PERIOD, STANDS. */
public final class EdgeAskedTest {
    /** 0 comes round to 1 in the 200th HOUR. */
    private static final String JUST_200 = "long 200;walker at 0 pace 1;walker at 0 pace 0";
    /** 0 stands until 2 came by it in the first HOUR, so it comes round to 1 in the 201st HOUR. */
    private static final String JUST_201 = JUST_200 + ";walker at 199 pace 2";
    private static final String WAITING = "stop if walker < 1 and met < 1;stop if walker > 1 and met > 0";

    public static void main(String[] args) {
        order();
        where();
        up();
        circle();
        never();
        laps();
        alone();
        both();
        period();
        standsBounds();
        standsFewest();
        standsSets();
        Check.end("EdgeAskedTest");
    }

    private static PromenadeRing waiting() {
        PromenadeRing ring = Check.ring(JUST_201);
        Check.law(ring, WAITING);
        return ring;
    }

    private static void order() {
        Check.says("ORDER: all WALKERS by GAP from the PLACE of WALKER 0 to theirs (of several the least number): the k-th (0 WALKER 0); none.");
        PromenadeRing ring = Check.ring("walker at 98 pace 0;walker at 97 pace 0;walker at 99 pace 0;walker at 0 pace 0;walker at 98 pace 0;"
            + "walker at 0 pace 0;walker at 97 pace 0");
        int[] due = {0, 4, 2, 3, 5, 1, 6};
        for (int k = 0; k < due.length; k++) {
            Check.due("order(" + k + ")", due[k], ring.order(k));
        }
        Check.says("`int order(int k)`: ORDER; NONE.");
        for (int k : new int[] {-1, 7, 8, Integer.MAX_VALUE, Integer.MIN_VALUE}) {
            Check.due("order(" + k + ")", -1, ring.order(k));
        }
        PromenadeRing one = Check.ring("walker at 98 pace 0");
        Check.due("of one", 0, one.order(0));
        Check.due("no second of one", -1, one.order(1));
        Check.due("of nobody", -1, new PromenadeRing().order(0));
    }

    private static void where() {
        Check.says("WHERE of a WALKER and N: its PLACE IN N HOURS.");
        PromenadeRing ring = Check.ring(JUST_200);
        Check.due("in no HOUR", 0, ring.where(0, 0));
        Check.due("in one", 1, ring.where(0, 1));
        Check.due("in 199", 199, ring.where(0, 199));
        Check.due("in 200", 0, ring.where(0, 200));
        Check.due("who stands", 0, ring.where(1, 200));
        PromenadeRing late = waiting();
        Check.due("one who waited", 199, late.where(0, 200));
        Check.due("the last one", 1, late.where(2, 200));
    }

    private static void up() {
        Check.says("UP of two: the first N (1 to 200) IN which one of both comes by the other one; none.");
        PromenadeRing ring = Check.ring(JUST_200);
        Check.due("in the 200th", 200, ring.up(0, 1));
        Check.due("the other way", 200, ring.up(1, 0));
        PromenadeRing late = waiting();
        Check.due("in the 201st", -1, late.up(0, 1));
        Check.due("in the first", 1, late.up(0, 2));
        Check.due("in the first, too", 1, late.up(2, 1));
        PromenadeRing again = waiting();
        again.hours(1);
        Check.due("in the 200th from now", 200, again.up(0, 1));
        Check.due("who met already and does not again", -1, again.up(2, 1));
        PromenadeRing stand = Check.ring("walker at 0 pace 0;walker at 0 pace 0");
        Check.due("at one PLACE for good", -1, stand.up(0, 1));
    }

    private static void circle() {
        Check.says("CIRCLE of a WALKER and N (0 to 200): whom it comes by, or who comes by it, in some of these N HOURS, as bits.");
        PromenadeRing ring = Check.ring(JUST_200);
        Check.due("of none", 0, ring.circle(0, 0));
        Check.due("of 199", 0, ring.circle(0, 199));
        Check.due("of 200", 2, ring.circle(0, 200));
        Check.due("of 200 by the other one", 1, ring.circle(1, 200));
        PromenadeRing late = waiting();
        Check.due("who comes by it", 4, late.circle(0, 1));
        Check.due("not in 200", 4, late.circle(0, 200));
        Check.due("whom it comes by", 3, late.circle(2, 1));
        late.hours(1);
        Check.due("MET before does not count", 0, late.circle(1, 199));
        Check.due("but who comes in the 200th from now", 1, late.circle(1, 200));
        Check.due("of one alone", 0, Check.ring("walker at 0 pace 9").circle(0, 200));
    }

    private static void never() {
        Check.says("NEVER of a WALKER: others who are not of its CIRCLE of 200, as bits.");
        Check.due("in the 200th", 0, Check.ring(JUST_200).walker(0, 11));
        PromenadeRing late = waiting();
        Check.due("in the 201st", 2, late.walker(0, 11));
        Check.due("of the other one", 1, late.walker(1, 11));
        Check.due("who meets both", 0, late.walker(2, 11));
        Check.due("of one alone", 0, Check.ring("walker at 0 pace 9").walker(0, 11));
        PromenadeRing stand = Check.ring(Check.lines("walker at 9 pace 0", 7));
        Check.due("of seven who stand", 126, stand.walker(0, 11));
        Check.due("of the last one", 63, stand.walker(6, 11));
        // 0 comes by 1 in the first HOUR alone, then it stands.
        PromenadeRing once = Check.ring("walker at 0 pace 9;walker at 9 pace 0");
        Check.law(once, "stop if met > 0");
        Check.due("in the first", 0, once.walker(0, 11));
    }

    private static void laps() {
        Check.says("LAPS of a WALKER and N: all ROUNDS that it has IN N HOURS.");
        PromenadeRing ring = Check.ring("long 10;walker at 9 pace 1;walker at 0 pace 9");
        Check.due("in none", 0, ring.laps(0, 0));
        Check.due("in one", 1, ring.laps(0, 1));
        Check.due("in ten", 1, ring.laps(0, 10));
        Check.due("in eleven", 2, ring.laps(0, 11));
        Check.due("in 200", 20, ring.laps(0, 200));
        Check.due("from 0 in one", 0, ring.laps(1, 1));
        Check.due("from 0 in 200", 180, ring.laps(1, 200));
        ring.hours(11);
        Check.due("with those that it has", 2, ring.laps(0, 0));
        Check.due("with those that come", 22, ring.laps(0, 200));
    }

    private static void alone() {
        Check.says("ALONE of a WALKER and a PLACE: the first N (0 to 200) by which it would be just there, going PACE each HOUR, "
            + "without a law, by nobody; none.");
        PromenadeRing ring = Check.ring("long 200;walker at 5 pace 1;walker at 5 pace 0;walker at 5 pace 99;walker at 6 pace 0;walker at 5 pace 40;shuns 0 3");
        Check.law(ring, "stop");
        Check.due("at once", 0, ring.alone(0, 5));
        Check.due("in one", 1, ring.alone(0, 6));
        Check.due("the latest there is", 199, ring.alone(0, 4));
        Check.due("over PLACE 0", 195, ring.alone(0, 0));
        Check.says("ALONE; NONE.");
        Check.due("who stands is there", 0, ring.alone(1, 5));
        Check.due("who stands is nowhere else", -1, ring.alone(1, 6));
        // 99 times 199 is 19701, which is 101 by 200; 5 and 101 is 106.
        Check.due("the latest of PACE 99", 199, ring.alone(2, 106));
        Check.due("40 yards on", 1, ring.alone(4, 45));
        Check.due("40 yards back", 4, ring.alone(4, 165));
        Check.due("never between", -1, ring.alone(4, 46));
        PromenadeRing ten = Check.ring("long 10;walker at 0 pace 10;walker at 0 pace 99;walker at 0 pace 20");
        Check.due("PACE of LONG stays", -1, ten.alone(0, 9));
        Check.due("PACE over LONG", 1, ten.alone(1, 9));
        Check.due("PACE over LONG, the last", 9, ten.alone(1, 1));
    }

    private static void both() {
        Check.says("BOTH of two: the first N (0 to 200) by which both would be at one PLACE so; none.");
        PromenadeRing ring = Check.ring("long 200;walker at 5 pace 1;walker at 5 pace 0;walker at 4 pace 0;walker at 6 pace 1;walker at 5 pace 51");
        Check.law(ring, "stop");
        Check.due("at once", 0, ring.both(0, 1));
        Check.due("the latest there is", 199, ring.both(0, 2));
        Check.due("the latest, turned", 199, ring.both(2, 0));
        Check.due("alike for good", -1, ring.both(0, 3));
        Check.due("both stand apart", -1, ring.both(1, 2));
        Check.due("at once though not again", 0, ring.both(0, 4));
        Check.due("coming over from behind", -1, ring.both(3, 4));
    }

    private static void period() {
        Check.says("PERIOD of a WALKER: after how many HOURS, 1 at least, it would be where it is, so.");
        int[][] cases = {{200, 0, 1}, {200, 1, 200}, {200, 99, 200}, {200, 50, 4}, {200, 80, 5}, {10, 10, 1}, {10, 20, 1}, {10, 90, 1},
            {10, 99, 10}, {10, 95, 2}, {10, 5, 2}, {11, 99, 1}, {199, 98, 199}, {100, 99, 100}, {60, 45, 4}};
        for (int[] row : cases) {
            PromenadeRing ring = Check.ring("long " + row[0] + ";walker at 9 pace " + row[1] + ";walker at 9 pace 0");
            Check.law(ring, "stop");
            Check.due("of PACE " + row[1] + " by " + row[0], row[2], ring.period(0));
        }
    }

    private static void standsBounds() {
        Check.says("STANDS of a WALKER, a set of others and N (1 to 6)");
        // 1 is so near that 0 comes by it in whatever HOUR it goes first.
        PromenadeRing near = Check.ring("walker at 0 pace 5;walker at 4 pace 0");
        for (int n = 1; n <= 6; n++) {
            Check.due("it must stand in all " + n, (1 << n) - 1, near.stands(0, 0, n));
            Check.due("it may go in all " + n, 0, near.stands(0, 2, n));
        }
        Check.argument("of none", () -> near.stands(0, 0, 0));
        Check.argument("of seven", () -> near.stands(0, 0, 7));
        Check.due("of one alone", 0, Check.ring("walker at 0 pace 5").stands(0, 0, 6));
    }

    private static void standsFewest() {
        Check.says("the fewest HOURS of the next N in which it must stand still (STRIDE 0; all else IN N HOURS) so that its CIRCLE of N "
            + "is just the set: of several the least as bits (bit 0 the next HOUR); none.");
        // By 5 yards an HOUR 0 is at 30 in six HOURS.
        PromenadeRing ring = Check.ring("walker at 0 pace 5;walker at 30 pace 0");
        Check.due("by it in six", 0, ring.stands(0, 2, 6));
        Check.due("not in six: the next HOUR alone", 1, ring.stands(0, 0, 6));
        Check.due("not in five", 0, ring.stands(0, 0, 5));
        Check.due("by it in five cannot be", -1, ring.stands(0, 2, 5));
        // 1 comes over PLACE 0 up to 6 in the second HOUR, and stands then: 0 is at 10 by then, or at 5 if it stood once.
        PromenadeRing by = Check.ring("walker at 0 pace 5;walker at 88 pace 9");
        Check.law(by, "stop if walker > 0 and rounds > 0");
        Check.due("it goes on ahead", 0, by.stands(0, 0, 2));
        Check.due("it waits, of both HOURS in the next one", 1, by.stands(0, 2, 2));
        // 1 must be met in the first HOUR, as it goes far then; 2 is met as soon as 0 goes twice.
        PromenadeRing later = Check.ring("long 200;walker at 0 pace 5;walker at 5 pace 30;walker at 10 pace 0");
        Check.due("the second HOUR", 2, later.stands(0, 2, 2));
        Check.due("the second and the third", 6, later.stands(0, 2, 3));
        Check.due("all but the first of six", 62, later.stands(0, 2, 6));
        Check.due("both", 0, later.stands(0, 6, 2));
        // 0 goes 10 yards from PLACE 0 by this law.
        PromenadeRing law = Check.ring("walker at 0 pace 5;walker at 5 pace 0;walker at 10 pace 0");
        Check.due("without it by the first one alone", 1, law.stands(0, 2, 2));
        Check.law(law, "haste 5 if at < 1");
        Check.due("it may not go at all", 3, law.stands(0, 0, 2));
        Check.due("both at once", 0, law.stands(0, 6, 2));
        Check.due("the first one alone cannot be", -1, law.stands(0, 2, 2));
    }

    private static void standsSets() {
        Check.says("STANDS, as bits; NONE (others than there are, and itself, count for nothing).");
        PromenadeRing near = Check.ring("walker at 0 pace 5;walker at 4 pace 0;walker at 50 pace 0");
        Check.due("just the set", 0, near.stands(0, 2, 1));
        Check.due("with itself", 0, near.stands(0, 3, 1));
        Check.due("with some that there are not", 0, near.stands(0, 2 | 8 | 64 | 128, 1));
        Check.due("with all that there are not", 0, near.stands(0, -8 | 2, 1));
        Check.due("nobody, with all that there are not", 1, near.stands(0, -8, 1));
        Check.due("with one more", -1, near.stands(0, 6, 1));
        Check.due("all", -1, near.stands(0, -1, 1));
        Check.says("Sets are bits; of none they count for nothing.");
        Check.due("the least number as bits", 1, near.stands(0, Integer.MIN_VALUE, 1));
        Check.due("all there are, by all bits", 0, Check.ring("walker at 0 pace 5;walker at 4 pace 0").stands(0, -1, 1));
    }
}
