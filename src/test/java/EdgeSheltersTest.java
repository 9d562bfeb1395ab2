/** The edges of calls ahead and of SHELTERS: CALLS, TOLD, EAR, FAR, FARTHEST, BEST, FEW, SEATED, SWAPS. */
public final class EdgeSheltersTest {
    public static void main(String[] args) {
        calls();
        told();
        ear();
        far();
        farthest();
        best();
        few();
        seatedAtMost();
        seatedFirst();
        seatedNone();
        seatedAgain();
        swaps();
        Check.end("EdgeSheltersTest");
    }

    private static void calls() {
        Check.says("CALLS of two WALKERS and E (1 to 200): the fewest calls from the first one to the second one, each from one to another "
            + "one that is at most E yards ahead (GAP 0, too); none.");
        PromenadeRing round = Check.ring("long 200;walker at 1 pace 0;walker at 0 pace 0");
        Check.due("just so far round", 1, round.calls(0, 1, 199));
        Check.due("one yard less", -1, round.calls(0, 1, 198));
        Check.due("the most", 1, round.calls(0, 1, 200));
        Check.due("the least", 1, round.calls(1, 0, 1));
        Check.due("to itself by the least", 0, round.calls(0, 0, 1));
        PromenadeRing same = Check.ring("walker at 9 pace 0;walker at 9 pace 0;walker at 10 pace 0;walker at 12 pace 0");
        Check.due("GAP 0", 1, same.calls(0, 1, 1));
        Check.due("GAP 0, back", 1, same.calls(1, 0, 1));
        Check.due("not behind", -1, same.calls(2, 0, 1));
        Check.due("not two yards", -1, same.calls(0, 3, 1));
        Check.due("two calls", 2, same.calls(0, 3, 2));
        Check.due("one call is fewer", 1, same.calls(0, 3, 3));
        PromenadeRing seven = Check.ring("long 70;walker at 60 pace 0;walker at 50 pace 0;walker at 40 pace 0;walker at 30 pace 0;"
            + "walker at 20 pace 0;walker at 10 pace 0;walker at 0 pace 0");
        Check.due("six calls of seven", 6, seven.calls(6, 0, 10));
        Check.due("over PLACE 0", 1, seven.calls(0, 6, 10));
        Check.due("all but round", 6, seven.calls(0, 1, 10));
        Check.due("three calls", 3, seven.calls(6, 0, 20));
        Check.due("none of seven", -1, seven.calls(6, 0, 9));
    }

    private static void told() {
        Check.says("TOLD of a WALKER and E: all to whom its calls come, itself too, as bits.");
        Check.due("one alone", 1, Check.ring("walker at 9 pace 0").told(0, 200));
        PromenadeRing ring = Check.ring("walker at 0 pace 0;walker at 5 pace 0;walker at 11 pace 0;walker at 11 pace 0");
        Check.due("4 yards", 1, ring.told(0, 4));
        Check.due("5 yards", 3, ring.told(0, 5));
        Check.due("6 yards", 15, ring.told(0, 6));
        Check.due("at one PLACE", 12, ring.told(2, 88));
        Check.due("round", 15, ring.told(2, 89));
        PromenadeRing seven = Check.ring(Check.lines("walker at 9 pace 0", 7));
        Check.due("seven", 127, seven.told(6, 1));
    }

    private static void ear() {
        Check.says("EAR: the least E (1 to 200) with which calls of each come to each other one (1 of one alone; none without WALKERS).");
        Check.says("`int ear()`: EAR; NONE.");
        Check.due("nobody", -1, new PromenadeRing().ear());
        Check.due("nobody but SHELTERS", -1, Check.ring("shelter at 0 seats 1").ear());
        Check.due("one alone", 1, Check.ring("long 200;walker at 9 pace 0").ear());
        Check.due("seven at one PLACE", 1, Check.ring("long 200;" + Check.lines("walker at 9 pace 0", 7)).ear());
        Check.due("the most there is", 199, Check.ring("long 200;walker at 0 pace 0;walker at 1 pace 0").ear());
        Check.due("the most there is, turned", 199, Check.ring("long 200;walker at 0 pace 0;walker at 199 pace 0").ear());
        Check.due("1 yard, 5 and 4", 5, Check.ring("long 10;walker at 0 pace 0;walker at 1 pace 0;walker at 6 pace 0").ear());
        PromenadeRing ring = Check.ring("long 60;walker at 0 pace 0;walker at 25 pace 0;walker at 25 pace 0;walker at 40 pace 0");
        Check.due("25, 15 and 20", 25, ring.ear());
        for (int w = 0; w < 4; w++) {
            Check.due("all are told by it", 15, ring.told(w, 25));
        }
        Check.due("some are not by less", 1, ring.told(0, 24));
    }

    private static void far() {
        Check.says("FAR of a WALKER: GAP to the next SHELTER ahead (0, if there is one; none without).");
        Check.due("none without", -1, Check.ring("walker at 5 pace 0").walker(0, 10));
        Check.due("just there", 0, Check.ring("walker at 5 pace 0;shelter at 5 seats 1").walker(0, 10));
        Check.due("just ahead", 1, Check.ring("walker at 5 pace 0;shelter at 6 seats 1").walker(0, 10));
        Check.due("just behind", 199, Check.ring("long 200;walker at 5 pace 0;shelter at 4 seats 1").walker(0, 10));
        Check.due("over PLACE 0", 1, Check.ring("walker at 99 pace 0;shelter at 0 seats 1").walker(0, 10));
        Check.due("the nearest of four", 2,
            Check.ring("walker at 99 pace 0;shelter at 98 seats 1;shelter at 5 seats 1;shelter at 1 seats 1;shelter at 3 seats 1").walker(0, 10));
    }

    private static void farthest() {
        Check.says("FARTHEST: the WALKER whose FAR is the most (of several the least; none).");
        Check.due("nobody", -1, Check.ring("shelter at 5 seats 1").farthest());
        Check.due("one who is there", 0, Check.ring("walker at 5 pace 0;shelter at 5 seats 1").farthest());
        Check.due("all are there", 0, Check.ring("walker at 5 pace 0;walker at 5 pace 0;shelter at 5 seats 1").farthest());
        Check.due("just behind is the farthest", 2, Check.ring("walker at 5 pace 0;walker at 4 pace 0;walker at 6 pace 0;shelter at 5 seats 1").farthest());
        Check.due("of several", 1, Check.ring("walker at 5 pace 0;walker at 6 pace 0;walker at 6 pace 0;shelter at 5 seats 1").farthest());
        Check.says("FARTHEST; NONE (also without SHELTERS).");
        Check.due("without SHELTERS", -1, Check.ring("walker at 5 pace 0").farthest());
        Check.due("without all", -1, new PromenadeRing().farthest());
    }

    private static void best() {
        Check.says("BEST of a SHELTER: the PLACE at which it would stand so that the greatest FAR is the least (of several the least; "
            + "where it stands without WALKERS).");
        Check.due("without WALKERS", 99, Check.ring("shelter at 99 seats 1").shelter(0, 2));
        Check.due("without WALKERS, one of two", 7, Check.ring("shelter at 99 seats 1;shelter at 7 seats 1").shelter(1, 2));
        Check.due("the first PLACE", 0, Check.ring("walker at 0 pace 0;shelter at 50 seats 1").shelter(0, 2));
        Check.due("the last PLACE", 99, Check.ring("walker at 99 pace 0;shelter at 50 seats 1").shelter(0, 2));
        Check.due("the last PLACE of 200", 199, Check.ring("long 200;walker at 199 pace 0;shelter at 50 seats 1").shelter(0, 2));
        Check.due("0 and 50 of 100, of both the least", 0, Check.ring("walker at 50 pace 0;walker at 0 pace 0;shelter at 7 seats 1").shelter(0, 2));
        Check.due("90 and 10, over PLACE 0", 10, Check.ring("walker at 90 pace 0;walker at 10 pace 0;shelter at 7 seats 1").shelter(0, 2));
        Check.due("another one is there already", 0, Check.ring("walker at 9 pace 0;shelter at 50 seats 1;shelter at 9 seats 1").shelter(0, 2));
        PromenadeRing ring = Check.ring("walker at 9 pace 0;walker at 60 pace 0;shelter at 50 seats 1;shelter at 70 seats 1");
        // With 70 kept: FAR of 60 is 10 or less, FAR of 9 is the least at 9 to 19, where that of 60 is not more.
        Check.due("up to what the other one leaves", 9, ring.shelter(0, 2));
        Check.due("it stands where it stood", 50, ring.shelter(0, 0));
    }

    private static void few() {
        Check.says("FEW of N (0 to 199): the fewest SHELTERS so that FAR of each WALKER by these alone is N at most: of several the least "
            + "as bits (0 without WALKERS); none.");
        PromenadeRing behind = Check.ring("long 200;walker at 5 pace 0;shelter at 4 seats 1");
        Check.due("199 yards", 1, behind.few(199));
        Check.due("not 198", -1, behind.few(198));
        PromenadeRing there = Check.ring("walker at 5 pace 0;shelter at 5 seats 1");
        Check.due("0 yards", 1, there.few(0));
        Check.due("without WALKERS", 0, Check.ring("shelter at 5 seats 1;shelter at 6 seats 1").few(0));
        Check.due("without all", 0, new PromenadeRing().few(199));
        Check.due("without SHELTERS", -1, Check.ring("walker at 5 pace 0").few(199));
        PromenadeRing four = Check.ring("walker at 0 pace 0;walker at 25 pace 0;walker at 50 pace 0;walker at 75 pace 0;"
            + "shelter at 0 seats 1;shelter at 25 seats 1;shelter at 50 seats 1;shelter at 75 seats 1");
        Check.due("all four", 15, four.few(0));
        Check.due("all four still", 15, four.few(24));
        Check.due("two of four, the least as bits", 5, four.few(25));
        Check.due("two of four", 3, four.few(50));
        Check.due("two of four still", 3, four.few(74));
        Check.due("one of four, the least as bits", 1, four.few(75));
        PromenadeRing last = Check.ring("walker at 5 pace 0;shelter at 4 seats 1;shelter at 3 seats 1;shelter at 2 seats 1;shelter at 5 seats 1");
        Check.due("one, though its bit is the greatest", 8, last.few(50));
    }

    private static void row(String what, PromenadeRing ring, int... due) {
        int many = 0;
        for (int w = 0; w < due.length; w++) {
            Check.due(what + ": seated(" + w + ")", due[w], ring.seated(w));
            many += due[w] >= 0 ? 1 : 0;
        }
        Check.due(what + ": how many", many, ring.seated(-1));
    }

    private static void seatedAtMost() {
        Check.says("SEATED: WALKERS put to SHELTERS, each at most as many as SEATS, each WALKER to one or to none, so that as many as can be "
            + "are seated and of such GAPS ahead of all together are the least");
        for (int seats = 1; seats <= 3; seats++) {
            int[] due = new int[4];
            for (int w = 0; w < 4; w++) {
                due[w] = w < seats ? 0 : -1;
            }
            row(seats + " for four", Check.ring(Check.lines("walker at 5 pace 0", 4) + ";shelter at 9 seats " + seats), due);
        }
        row("2 for two", Check.ring("walker at 5 pace 0;walker at 5 pace 0;shelter at 9 seats 2"), 0, 0);
        row("as many as can be, far though it is", Check.ring("long 200;walker at 5 pace 0;walker at 5 pace 0;shelter at 5 seats 1;shelter at 4 seats 1"), 0, 1);
        row("the nearer one is seated", Check.ring("walker at 5 pace 0;walker at 8 pace 0;walker at 7 pace 0;shelter at 9 seats 2"), -1, 0, 0);
        row("just there, not just behind", Check.ring("long 200;walker at 6 pace 0;walker at 5 pace 0;shelter at 5 seats 1"), -1, 0);
        // 5 to 30 and 20 round to 10 is 25 yards and 90, 5 to 10 and 20 to 30 is 5 and 10.
        row("all together", Check.ring("walker at 5 pace 0;walker at 20 pace 0;shelter at 30 seats 1;shelter at 10 seats 1"), 1, 0);
        // 5 to 9 and 6 round to 4 is 4 yards and 98, the other way 99 and 3: alike, so the first way is taken.
        row("alike together", Check.ring("walker at 5 pace 0;walker at 6 pace 0;shelter at 9 seats 1;shelter at 4 seats 1"), 0, 1);
    }

    private static void seatedFirst() {
        Check.says("where a WALKER is in the first such way (WALKER by WALKER, the SHELTERS by numbers, none behind all); none.");
        row("by numbers", Check.ring("walker at 5 pace 0;walker at 5 pace 0;shelter at 9 seats 1;shelter at 9 seats 1"), 0, 1);
        row("none behind all", Check.ring("walker at 5 pace 0;walker at 5 pace 0;walker at 5 pace 0;shelter at 9 seats 1;shelter at 9 seats 1"), 0, 1, -1);
        row("2 seats and 3", Check.ring(Check.lines("walker at 5 pace 0", 6) + ";shelter at 9 seats 2;shelter at 9 seats 3"), 0, 0, 1, 1, 1, -1);
        row("the last of four", Check.ring("walker at 5 pace 0;shelter at 4 seats 1;shelter at 3 seats 1;shelter at 2 seats 1;shelter at 5 seats 1"), 3);
        row("seats enough", Check.ring("walker at 5 pace 0;shelter at 9 seats 3;shelter at 9 seats 3;shelter at 9 seats 3;shelter at 9 seats 3"), 0);
    }

    private static void seatedNone() {
        Check.says("SEATED: how many (walker NONE), or where one is; NONE.");
        row("no SHELTERS", Check.ring("walker at 5 pace 0;walker at 5 pace 0"), -1, -1);
        row("nobody", Check.ring("shelter at 9 seats 3"));
        row("nobody at all", new PromenadeRing());
        Check.index("no WALKER of nobody", () -> new PromenadeRing().seated(0));
    }

    /** What was found with more WALKERS, SHELTERS or SEATS before must not matter. */
    private static void seatedAgain() {
        Check.says("SEATED: how many (walker NONE), or where one is; NONE.");
        PromenadeRing ring = Check.ring("walker at 50 pace 0;walker at 60 pace 0;shelter at 70 seats 1");
        row("two", ring, -1, 0);
        ring.out(0);
        row("three", ring, -1, 0, -1);
        ring.move(0, 0);
        row("the third one is there", ring, -1, -1, 0);
        ring.undo();
        ring.undo();
        row("two again", ring, -1, 0);
        PromenadeRing many = Check.ring(Check.lines("walker at 5 pace 0", 2) + ";shelter at 9 seats 1");
        many.image();
        Check.promenade(many, "shelter at 9 seats 3;walker at 9 pace 0;walker at 9 pace 0");
        row("four seats", many, 0, 1, 1, 1);
        many.back();
        row("one seat again", many, 0, -1);
    }

    private static void swaps() {
        Check.says("SWAPS: pairs of seated WALKERS (by that way) both of whom would have less GAP in the other one's SHELTER: how many.");
        Check.due("nobody", 0, new PromenadeRing().swaps());
        Check.due("no SHELTERS", 0, Check.ring("walker at 5 pace 0;walker at 6 pace 0").swaps());
        Check.due("alike", 0, Check.ring("walker at 5 pace 0;walker at 5 pace 0;shelter at 9 seats 1;shelter at 9 seats 1").swaps());
        PromenadeRing crossed = Check.ring("walker at 5 pace 0;walker at 50 pace 0;shelter at 50 seats 1;shelter at 5 seats 1");
        Check.due("each is where it is nearer", 0, crossed.swaps());
        row("so nobody would swap", crossed, 1, 0);
        crossed.move(0, 5);
        crossed.move(1, 50);
        Check.due("moved", 0, crossed.swaps());
        row("they follow", crossed, 0, 1);
    }
}
