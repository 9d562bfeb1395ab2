/** The edges of an HOUR: who is ahead, how far one goes, who comes by whom, rounds, draws, and THE LOG. */
public final class EdgeHoursTest {
    public static void main(String[] args) {
        ahead();
        shunning();
        comingBy();
        comingByWhileShunning();
        byNumbers();
        mostHats();
        mostRounds();
        roundOrNot();
        draws();
        seeds();
        drawsAlways();
        manyInOneCall();
        noDraws();
        logOrder();
        logFull();
        logUndone();
        led();
        Check.end("EdgeHoursTest");
    }

    private static void ahead() {
        Check.says("8 AHEAD (NONE), 9 GAP to that one (NONE), 10 FAR (NONE)");
        PromenadeRing one = Check.ring("walker at 5 pace 1");
        Check.due("FAR of one alone", -1, one.walker(0, 10));
        Check.due("of one alone", -1, one.walker(0, 8));
        Check.due("GAP of one alone", -1, one.walker(0, 9));
        Check.says("AHEAD of a WALKER: the other one of the least GAP from its PLACE to that one's (of several the least number)");
        PromenadeRing two = Check.ring("walker at 5 pace 1;walker at 4 pace 1");
        Check.due("round to just behind", 1, two.walker(0, 8));
        Check.due("that GAP", 99, two.walker(0, 9));
        Check.due("just ahead", 0, two.walker(1, 8));
        Check.due("that GAP of 1", 1, two.walker(1, 9));
        PromenadeRing same = Check.ring("walker at 5 pace 1;walker at 5 pace 1");
        Check.due("at one PLACE", 1, same.walker(0, 8));
        Check.due("GAP at one PLACE", 0, same.walker(0, 9));
        PromenadeRing several = Check.ring("walker at 99 pace 1;walker at 0 pace 1;walker at 0 pace 1;walker at 98 pace 1");
        Check.due("over PLACE 0, the least number", 1, several.walker(0, 8));
        Check.due("GAP over PLACE 0", 1, several.walker(0, 9));
        Check.due("the other one there", 2, several.walker(1, 8));
        Check.due("and back", 1, several.walker(2, 8));
        Check.due("the nearest", 0, several.walker(3, 8));
    }

    private static void shunning() {
        Check.says("but no farther than to 1 yard behind any one whom it SHUNS (GAP 1 at least; if GAP to one is 0, that one does not matter)");
        int[] gaps = {0, 1, 2, 9, 10, 11, 12, 99};
        int[] goes = {10, 0, 1, 8, 9, 10, 10, 10};
        for (int at : new int[] {0, 45, 91, 99}) {
            for (int i = 0; i < gaps.length; i++) {
                int other = (at + gaps[i]) % 100;
                int due = (at + goes[i]) % 100;
                PromenadeRing ring = Check.ring("walker at " + at + " pace 10;walker at " + other + " pace 0;shuns 0 1");
                Check.due("0 comes by 1 behind GAP " + gaps[i], 0, ring.hours(1));
                Check.due("0 from " + at + " by GAP " + gaps[i], due, ring.walker(0, 0));
                PromenadeRing turned = Check.ring("walker at " + other + " pace 0;walker at " + at + " pace 10;shuns 1 0");
                turned.hours(1);
                Check.due("1 from " + at + " by GAP " + gaps[i], due, turned.walker(1, 0));
            }
        }
        PromenadeRing any = Check.ring("walker at 0 pace 50;walker at 30 pace 0;walker at 20 pace 0;walker at 40 pace 0;walker at 0 pace 0;"
            + "shuns 0 1;shuns 0 2;shuns 0 3;shuns 0 4");
        any.hours(1);
        Check.due("behind the nearest that matters", 19, any.walker(0, 0));
        Check.due("it never meets one of these", 0, any.hours(200));
        Check.due("it stands behind", 19, any.walker(0, 0));
        any.shun(0, 2, false);
        any.hours(1);
        Check.due("behind the next one", 29, any.walker(0, 0));
    }

    private static void comingBy() {
        Check.says("it comes by each other one whose GAP is 1 at least and no more than what it goes");
        int[] gaps = {0, 1, 9, 10, 11, 99};
        int[] times = {0, 1, 1, 1, 0, 0};
        for (int at : new int[] {0, 45, 95, 99}) {
            for (int i = 0; i < gaps.length; i++) {
                PromenadeRing ring = Check.ring("walker at " + at + " pace 10;walker at " + (at + gaps[i]) % 100 + " pace 0");
                Check.due("from " + at + " by GAP " + gaps[i], times[i], ring.hours(1));
                Check.due("rows", times[i], ring.count(9));
                Check.due("MET", times[i] * 2, ring.walker(0, 6));
                Check.due("MET by the other one", times[i], ring.walker(1, 6));
                Check.due("HATS", times[i], ring.walker(0, 4));
                Check.due("HATS of the other one", times[i], ring.walker(1, 4));
            }
        }
        PromenadeRing most = Check.ring("long 10;walker at 5 pace 99;walker at 4 pace 0;walker at 6 pace 0;walker at 5 pace 0");
        Check.due("all round but for its own PLACE", 2, most.hours(1));
        Check.due("STRIDE is LONG less 1", 4, most.walker(0, 0));
    }

    private static void comingByWhileShunning() {
        Check.says("it comes by each other one whose GAP is 1 at least and no more than what it goes");
        PromenadeRing ring = Check.ring("walker at 0 pace 10;walker at 5 pace 0;walker at 4 pace 0;walker at 5 pace 0;walker at 6 pace 0;shuns 0 1");
        Check.due("up to where it goes", 1, ring.hours(1));
        Check.due("that one alone", 4, ring.walker(0, 6));
        Check.due("at its PLACE", 4, ring.walker(0, 0));
    }

    private static void byNumbers() {
        Check.says("each WALKER, by numbers, by all as it is then");
        // 0 has gone on when 1 looks ahead: 1 comes by it, and stays behind it if it SHUNS it.
        PromenadeRing ring = Check.ring("walker at 0 pace 5;walker at 99 pace 6");
        Check.due("to where 0 is by then", 1, ring.hours(1));
        PromenadeRing less = Check.ring("walker at 0 pace 5;walker at 99 pace 5");
        Check.due("not so far", 0, less.hours(1));
        PromenadeRing shuns = Check.ring("walker at 0 pace 5;walker at 99 pace 9;shuns 1 0");
        shuns.hours(1);
        Check.due("behind where 0 is by then", 4, shuns.walker(1, 0));
        // 0 looks ahead when 1 has not gone on yet.
        PromenadeRing early = Check.ring("walker at 0 pace 5;walker at 5 pace 50");
        Check.due("where 1 is still", 1, early.hours(1));
        PromenadeRing law = Check.ring("walker at 0 pace 5;walker at 5 pace 1;walker at 50 pace 1");
        Check.law(law, "stop if met > 0");
        law.hours(1);
        Check.due("who was met in this HOUR", 5, law.walker(1, 0));
        Check.due("who was not", 51, law.walker(2, 0));
    }

    /** 1 comes by 0 in each HOUR t but those of which t modulo 10 is 5, and over PLACE 0 but when it is 0. */
    private static PromenadeRing behind1109Hours() {
        PromenadeRing ring = Check.ring("long 10;walker at 5 pace 0;walker at 0 pace 9");
        for (int i = 0; i < 5; i++) {
            ring.hours(200);
        }
        ring.hours(109);
        return ring;
    }

    private static void mostHats() {
        Check.says("both MET each other, HATS of both are 1 more (999 at most)");
        PromenadeRing ring = behind1109Hours();
        Check.due("just below", 998, ring.walker(0, 4));
        Check.due("of all", 1996, ring.count(8));
        Check.due("one more", 1, ring.hours(1));
        Check.due("the most", 999, ring.walker(0, 4));
        Check.due("the most of the other one", 999, ring.walker(1, 4));
        Check.due("one comes by all the same", 1, ring.hours(1));
        Check.due("not more", 999, ring.walker(0, 4));
        Check.due("nor of the other one", 999, ring.walker(1, 4));
        Check.due("of all then", 1998, ring.count(8));
        Check.due("a trial has no more", 1998, ring.trial(200, false));
        Check.due("the latest row is there", 1110, ring.log(0, 0));
    }

    private static void mostRounds() {
        Check.says("ROUNDS is 1 more (999 at most; one that begins at PLACE 0 does not by that)");
        PromenadeRing ring = behind1109Hours();
        Check.due("just below", 998, ring.walker(1, 5));
        Check.due("LAPS to the most", 999, ring.laps(1, 1));
        Check.due("LAPS at the most", 999, ring.laps(1, 200));
        ring.hours(1);
        Check.due("the most", 999, ring.walker(1, 5));
        ring.hours(2);
        Check.due("not more", 999, ring.walker(1, 5));
        Check.due("of one who stands", 0, ring.walker(0, 5));
    }

    private static void roundOrNot() {
        Check.says("if it goes and comes to PLACE 0 or over it, ROUNDS is 1 more");
        int[][] cases = {{90, 9, 0}, {90, 10, 1}, {90, 11, 1}, {99, 1, 1}, {99, 0, 0}, {0, 99, 0}, {0, 1, 0}, {0, 0, 0}, {1, 98, 0}, {1, 99, 1}, {50, 99, 1}};
        for (int[] row : cases) {
            PromenadeRing ring = Check.ring("walker at " + row[0] + " pace " + row[1]);
            ring.hours(1);
            Check.due("from " + row[0] + " by " + row[1], row[2], ring.walker(0, 5));
            Check.due("PLACE", (row[0] + row[1]) % 100, ring.walker(0, 0));
        }
        PromenadeRing stopped = Check.ring("walker at 95 pace 50;walker at 1 pace 0;walker at 95 pace 50;walker at 0 pace 0;shuns 0 1;shuns 2 3");
        stopped.hours(1);
        Check.due("up to PLACE 0 by shunning", 1, stopped.walker(0, 5));
        Check.due("up to the last PLACE by shunning", 0, stopped.walker(2, 5));
        PromenadeRing out = new PromenadeRing();
        out.out(99);
        out.hours(1);
        Check.due("one that set out at 0", 0, out.walker(0, 5));
        out.hours(1);
        Check.due("then it comes over it", 1, out.walker(0, 5));
    }

    /** SEED behind one DRAW, by numbers that do not go round by themselves. */
    private static int next(int seed) {
        long wide = Math.floorMod(Math.floorMod((long) seed, 1L << 32) * 1103515245L + 12345L, 1L << 32);
        return (int) wide;
    }

    private static int draw(int seed) {
        return (int) (Math.floorMod((long) next(seed), 1L << 31) / 65536);
    }

    private static void draws() {
        Check.says("if DRAW modulo 100 is below MIST it is MISTY, else not (the DRAW always)");
        int[] seeds = {1, 0, -1, 7, 12345, Integer.MAX_VALUE, Integer.MIN_VALUE, 987654321};
        for (int seed : seeds) {
            int now = seed;
            for (int i = 0; i < 8; i++) {
                int drawn = draw(now) % 100;
                PromenadeRing at = Check.ring("misty;mist " + drawn);
                at.seed(now);
                at.hours(1);
                Check.due("a DRAW of " + drawn + " is not below itself", 0, at.count(7));
                PromenadeRing below = Check.ring("mist " + (drawn + 1));
                below.seed(now);
                below.hours(1);
                Check.due("a DRAW of " + drawn + " is below 1 more", 1, below.count(7));
                now = next(now);
            }
        }
    }

    private static void seeds() {
        Check.says("SEED is 1103515245 times SEED and 12345, as an int that goes round; bits 16 to 30 (SEED 1 at first)");
        PromenadeRing ring = new PromenadeRing();
        Check.due("at first", 1, ring.seed(1));
        for (int seed : new int[] {1, 0, -1, Integer.MAX_VALUE, Integer.MIN_VALUE, 2, 65536}) {
            ring.seed(seed);
            ring.hours(1);
            Check.due("behind " + seed, next(seed), ring.seed(0));
        }
        Check.says("`int seed(int n)`: SEED: what it was.");
        Check.due("as told", 0, ring.seed(Integer.MIN_VALUE));
        Check.due("the least", Integer.MIN_VALUE, ring.seed(Integer.MAX_VALUE));
        Check.due("the greatest", Integer.MAX_VALUE, ring.seed(1));
    }

    private static void drawsAlways() {
        Check.says("(the DRAW always)");
        for (String text : new String[] {"mist 0", "mist 100", "mist 50;misty", "walker at 0 pace 1"}) {
            PromenadeRing ring = Check.ring(text);
            ring.hours(2);
            Check.due("two DRAWS of " + text, next(next(1)), ring.seed(1));
        }
        Check.due("MIST 0 is never", 0, Check.ring("mist 0;misty").trial(200, true));
        Check.due("MIST 100 is always", 200, Check.ring("mist 100").trial(200, true));
    }

    private static void manyInOneCall() {
        Check.says("So many HOURS more (1 to 200): how often one came by another one in these.");
        PromenadeRing one = Check.ring(FiguresTest.FOUR);
        Check.law(one, "slow 3 if misty;haste 2 if gap < 9");
        PromenadeRing many = Check.ring(FiguresTest.FOUR);
        Check.law(many, "slow 3 if misty;haste 2 if gap < 9");
        int times = 0;
        for (int i = 0; i < 200; i++) {
            times += many.hours(1);
        }
        Check.due("200 in one call", times, one.hours(200));
        one.image();
        one.back();
        many.image();
        many.back();
        Check.due("all is alike", Picture.of(many), Picture.of(one));
        Check.due("of nobody", 0, new PromenadeRing().hours(200));
    }

    private static void noDraws() {
        Check.says("IN N HOURS (0 to 200): as so many HOURS without (b) (no DRAWS).");
        PromenadeRing ring = Check.ring("long 200;walker at 0 pace 1;mist 100");
        Check.law(ring, "stop if misty");
        Check.due("none", 0, ring.where(0, 0));
        Check.due("all but one", 199, ring.where(0, 199));
        Check.due("all", 0, ring.where(0, 200));
        Check.due("LAPS of all but one", 0, ring.laps(0, 199));
        Check.due("LAPS of all", 1, ring.laps(0, 200));
        Check.due("no DRAW", 1, ring.seed(1));
        ring.hours(1);
        Check.due("MISTY stays", 1, ring.where(0, 200));
    }

    private static void logOrder() {
        Check.says("(those that one comes by by numbers, the greatest the latest): HOUR, who came by, whom, the PLACE of that one.");
        PromenadeRing ring = Check.ring("hour 77;walker at 90 pace 0;walker at 96 pace 10;walker at 5 pace 0;walker at 3 pace 0;walker at 97 pace 0;walker at 6 pace 0");
        Check.due("four", 4, ring.hours(1));
        int[][] due = {{77, 1, 5, 6}, {77, 1, 4, 97}, {77, 1, 3, 3}, {77, 1, 2, 5}, {-1, -1, -1, -1}};
        for (int ago = 0; ago < due.length; ago++) {
            for (int what = 0; what < 4; what++) {
                Check.due("log(" + ago + ", " + what + ")", due[ago][what], ring.log(ago, what));
            }
        }
    }

    /** The HOURS of rows, the latest first, if 0 comes by 1 in each HOUR but those of which the last digit is 9. */
    private static void rows(PromenadeRing ring, int hours) {
        int ago = 0;
        for (int t = hours - 1; t >= 0 && ago < 60; t--) {
            if (t % 10 != 9) {
                Check.due("behind " + hours + ": log(" + ago + ", 0)", t, ring.log(ago, 0));
                ago++;
            }
        }
        Check.due("behind " + hours + ": rows", ago, ring.count(9));
        Check.due("behind " + hours + ": led", ago, ring.led(0, false));
        Check.due("no more", -1, ring.log(ago, 0));
    }

    private static void logFull() {
        Check.says("THE LOG: the latest 60 times that one came by another one");
        PromenadeRing ring = Check.ring("long 10;walker at 0 pace 9;walker at 1 pace 0");
        ring.hours(65);
        Check.due("59", 59, ring.count(9));
        rows(ring, 65);
        ring.hours(1);
        Check.due("60", 60, ring.count(9));
        rows(ring, 66);
        ring.hours(1);
        Check.due("60 of 61", 60, ring.count(9));
        rows(ring, 67);
        PromenadeRing more = Check.ring("long 10;walker at 0 pace 9;walker at 1 pace 0");
        more.hours(135);
        rows(more, 135);
        Check.says("THE LOG so many ago (0 the latest) what 0 HOUR, 1 who came by, 2 whom, 3 the PLACE; NONE without.");
        for (int none : new int[] {-1, 60, 61, Integer.MAX_VALUE, Integer.MIN_VALUE}) {
            Check.due("log(" + none + ", 0)", -1, more.log(none, 0));
        }
    }

    private static void logUndone() {
        Check.says("all is as ahead of it (but for the TAPE, fault(), THE IMAGE)");
        PromenadeRing ring = Check.ring("long 10;walker at 0 pace 9;walker at 1 pace 0");
        ring.hours(66);
        ring.image();
        ring.hours(1);
        ring.undo();
        rows(ring, 66);
        ring.hours(100);
        ring.back();
        rows(ring, 66);
        ring.hours(2);
        rows(ring, 68);
    }

    private static void led() {
        Check.says("LED: how many rows of THE LOG a WALKER came by in; the HOUR of the latest (none).");
        // 2 comes over PLACE 0 by both others in HOUR 0, and stands from then on; 0 goes by the others again and again.
        PromenadeRing ring = Check.ring("long 10;walker at 0 pace 9;walker at 1 pace 0;walker at 8 pace 4");
        Check.law(ring, "stop if walker > 1 and rounds > 0");
        Check.due("none yet", 0, ring.led(2, false));
        Check.due("no HOUR yet", -1, ring.led(2, true));
        ring.hours(1);
        Check.due("two", 2, ring.led(2, false));
        Check.due("HOUR 0", 0, ring.led(2, true));
        Check.due("who is come by did not", 0, ring.led(1, false));
        Check.due("no HOUR of that one", -1, ring.led(1, true));
        Check.says("LED: how many rows (hour false), or the HOUR; NONE.");
        ring.hours(100);
        Check.due("60 rows are newer", 0, ring.led(2, false));
        Check.due("no HOUR any more", -1, ring.led(2, true));
        Check.due("all are of 0", 60, ring.led(0, false));
        Check.due("the latest HOUR", ring.log(0, 0), ring.led(0, true));
    }
}
