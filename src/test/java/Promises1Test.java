/** Promises 1 to 25, one by one, on one small promenade whose hours are worked out below by hand. */
public final class Promises1Test {
    /**
     * HOUR by HOUR, the PLACES of 0, 1 and 2 (0 comes no nearer to 1 than 1 yard behind it):
     * 3: 5 8 30; 4: 7 9 5; 5: 8 10 20 (2 came by 0 and 1); 6: 9 11 35; 7: 10 12 10 (2 came by 0); 8: 11 13 25 (by 0 and 1).
     */
    static final String RING = "long 40;walker at 5 pace 6;walker at 8 pace 1 black;walker at 30 pace 15;shuns 0 1;"
        + "shelter at 10 seats 1;shelter at 0 seats 2;band 12;mist 50;hour 3";

    public static void main(String[] args) {
        newObject();
        tape();
        texts();
        laws();
        faults();
        walkers();
        shelters();
        gaps();
        hours();
        settingOut();
        paces();
        shunning();
        mourning();
        moving();
        lads();
        orders();
        places();
        comingUp();
        circles();
        laps();
        alone();
        both();
        periods();
        standing();
        Check.end("Promises1Test");
    }

    private static void newObject() {
        Check.says("## Promise 1: A new object");
        PromenadeRing ring = new PromenadeRing();
        int[] due = {0, 0, 0, PromenadeRing.NONE, 100, 0, 0, 0, 0, 0, 0};
        for (int what = 0; what < due.length; what++) {
            Check.due("count(" + what + ")", due[what], ring.count(what));
        }
        Check.due("fault()", PromenadeRing.NONE, ring.fault());
        Check.due("SEED", 1, ring.seed(1));
        Check.due("the TAPE is empty", false, ring.end(1));
        Check.due("MIST", 0, ring.odds(1, 1));
        Check.due("no image", false, ring.back());
        Check.index("a walker", () -> ring.walker(0, 0));
        Check.index("a shelter", () -> ring.shelter(0, 0));
    }

    private static void tape() {
        Check.says("## Promise 2: feed");
        PromenadeRing ring = new PromenadeRing();
        // "walk", "er a", "t 7 ", "pace", " 8  "
        Check.due("twenty bytes", 20, ring.feed(0x77616c6b, 0x65722061, 0x74203720, 0x70616365, 0x20382020));
        Check.due("the highest first", 1, ring.promenade());
        Check.due("the PLACE", 7, ring.walker(0, 0));
        Check.due("PACE", 8, ring.walker(0, 1));
        for (int n = 1; n <= 20; n++) {
            Check.due("feed " + n, 20 * n, ring.feed(-1, 0, 1, 2, 3));
        }
        Check.due("more than 400", PromenadeRing.NONE, ring.feed(0, 0, 0, 0, 0));
        Check.says("## Promise 3: end");
        Check.due("401 bytes", false, ring.end(401));
        Check.due("400 bytes", true, ring.end(400));
        Check.due("below 0", false, ring.end(-1));
        Check.due("381 bytes", true, ring.end(381));
        Check.due("382 bytes are no more there", false, ring.end(382));
        Check.due("20 more would be 401", PromenadeRing.NONE, ring.feed(0, 0, 0, 0, 0));
        Check.due("none", true, ring.end(0));
        Check.due("one is more than none", false, ring.end(1));
    }

    private static void texts() {
        Check.says("## Promise 4: promenade");
        PromenadeRing ring = new PromenadeRing();
        Check.due("the first text", 1, Check.promenade(ring, RING));
        Check.due("the TAPE is used up", false, ring.end(1));
        Check.due("LONG", 40, ring.count(4));
        Check.argument("a wrong text", () -> Check.promenade(ring, "walker at 3 pace 3;long 50"));
        Check.due("nothing of it stays", 3, ring.count(0));
        Check.due("the TAPE is used up by it", false, ring.end(1));
        for (int n = 2; n <= 12; n++) {
            Check.due("text " + n, n, Check.promenade(ring, "hour " + n));
        }
        Check.argument("a wrong 13th", () -> Check.promenade(ring, "hour"));
        Check.unsupported("a right 13th", () -> Check.promenade(ring, "hour 77"));
        Check.due("HOUR", 12, ring.count(6));
        Check.due("texts", 12, ring.count(2));
    }

    private static void laws() {
        Check.says("## Promise 5: law");
        PromenadeRing ring = Check.ring(RING);
        Check.due("three LINES", 3, Check.law(ring, "slow 2 if black;haste 4 if hears;stop if gap < 3"));
        Check.due("the TAPE is used up", false, ring.end(1));
        Check.due("0 hears: 6 and 4", 10, ring.walker(0, 7));
        Check.due("1 hears, in black: 1 and 4 less 2", 3, ring.walker(1, 7));
        Check.due("2 as ever", 15, ring.walker(2, 7));
        Check.argument("a wrong law", () -> Check.law(ring, "stop if"));
        Check.due("the one before stays", 3, ring.count(3));
        Check.due("in place of it", 1, Check.law(ring, "stop if gap < 4"));
        Check.due("0 is 3 yards behind 1", 0, ring.walker(0, 7));
        Check.due("1 is not", 1, ring.walker(1, 7));
        Check.due("no LINE", 0, Check.law(ring, "  "));
    }

    private static void faults() {
        Check.says("## Promise 6: fault");
        PromenadeRing ring = new PromenadeRing();
        Check.due("ahead of any", PromenadeRing.NONE, ring.fault());
        Check.markedPromenade(ring, "long 20;band ^20");
        Check.markedLaw(ring, "slow 3 if at ^and");
        Check.promenade(ring, "band 20");
        Check.due("of a right text", PromenadeRing.NONE, ring.fault());
        Check.markedPromenade(ring, "walker at 1 pace ^");
        Check.argument("rows are no text", () -> {
            Check.put(ring, 1);
            return ring.round(true);
        });
        Check.due("the latest text", 17, ring.fault());
    }

    private static void walkers() {
        Check.says("## Promise 7: walker");
        PromenadeRing ring = Check.ring(RING);
        int[][] first = {
            {5, 6, 2, 0, 0, 0, 0, 6, 1, 3, 5, 2, 0, 0},
            {8, 1, 0, 1, 0, 0, 0, 1, 2, 22, 2, 1, 1, 0},
            {30, 15, 0, 0, 0, 0, 0, 15, 0, 15, 10, 0, 0, 0},
        };
        figures("at first", ring, first);
        ring.hours(5);
        int[][] then = {
            {11, 6, 2, 0, 3, 0, 4, 6, 1, 2, 29, 2, 0, 30},
            {13, 1, 0, 1, 2, 0, 4, 1, 2, 12, 27, 1, 1, 20},
            {25, 15, 0, 0, 5, 2, 3, 15, 0, 26, 15, 0, 0, 50},
        };
        figures("5 HOURS on", ring, then);
        for (int no : new int[] {-1, 14, 100, Integer.MIN_VALUE}) {
            Check.element("what " + no, () -> ring.walker(0, no));
            Check.index("no walker comes first", () -> ring.walker(3, no));
        }
        Check.index("walker -1", () -> ring.walker(-1, 0));
        PromenadeRing one = Check.ring("walker at 3 pace 1");
        for (int what = 8; what <= 10; what++) {
            Check.due("of one alone: " + what, PromenadeRing.NONE, one.walker(0, what));
        }
    }

    private static void figures(String when, PromenadeRing ring, int[][] due) {
        for (int w = 0; w < due.length; w++) {
            for (int what = 0; what < due[w].length; what++) {
                Check.due(when + ": walker(" + w + ", " + what + ")", due[w][what], ring.walker(w, what));
            }
        }
    }

    private static void shelters() {
        Check.says("## Promise 8: shelter");
        PromenadeRing ring = Check.ring(RING);
        // Shelter 1 is 10 yards ahead of 2, and nothing is better than to be within 10 of 0 and 1 too: from 8 on. If 1 is moved,
        // 0 has still 5 yards to go, and from 30 to 35 none has more.
        int[][] due = {{10, 1, 8}, {0, 2, 30}};
        for (int s = 0; s < due.length; s++) {
            for (int what = 0; what < 3; what++) {
                Check.due("shelter(" + s + ", " + what + ")", due[s][what], ring.shelter(s, what));
            }
        }
        Check.element("what 3", () -> ring.shelter(0, 3));
        Check.element("what -1", () -> ring.shelter(1, -1));
        Check.index("shelter 2", () -> ring.shelter(2, 3));
        Check.index("shelter -1", () -> ring.shelter(-1, 0));
        Check.due("without WALKERS where it stands", 17, Check.ring("shelter at 17 seats 1").shelter(0, 2));
    }

    private static void gaps() {
        Check.says("## Promise 9: gap");
        PromenadeRing ring = Check.ring(RING);
        Check.due("on", 25, ring.gap(5, 30));
        Check.due("over 0", 15, ring.gap(30, 5));
        Check.due("the same", 0, ring.gap(7, 7));
        Check.due("the most", 39, ring.gap(0, 39));
        Check.due("from the last one", 1, ring.gap(39, 0));
        Check.index("40", () -> ring.gap(40, 0));
        Check.index("to 40", () -> ring.gap(0, 40));
        Check.index("-1", () -> ring.gap(-1, 0));
        Check.index("to -1", () -> ring.gap(0, -1));
    }

    private static void hours() {
        Check.says("## Promise 10: hours");
        PromenadeRing ring = Check.ring(RING);
        int[][] due = {{0, 7, 9, 5, 1}, {2, 8, 10, 20, 0}, {0, 9, 11, 35, 1}, {1, 10, 12, 10, 1}, {2, 11, 13, 25, 0}};
        for (int i = 0; i < due.length; i++) {
            Check.due("how often in HOUR " + i, due[i][0], ring.hours(1));
            for (int w = 0; w < 3; w++) {
                Check.due("where " + w + " is", due[i][w + 1], ring.walker(w, 0));
            }
            Check.due("MISTY", due[i][4], ring.count(7));
            Check.due("HOUR", 4 + i, ring.count(6));
        }
        Check.due("five at once", 5, Check.ring(RING).hours(5));
        for (int no : new int[] {0, -1, 201, Integer.MAX_VALUE}) {
            Check.argument("hours(" + no + ")", () -> ring.hours(no));
        }
        Check.nothingThrown("hours(200)", () -> ring.hours(200));
        Check.due("HOUR 200 on", 208, ring.count(6));
    }

    private static void settingOut() {
        Check.says("## Promise 11: out");
        PromenadeRing ring = Check.ring(RING);
        Check.argument("-1", () -> ring.out(-1));
        Check.argument("100", () -> ring.out(100));
        Check.due("its number", 3, ring.out(99));
        int[] due = {0, 99, 0, 0, 0, 0, 0, 39, 0, 5, 0};
        for (int what = 0; what < due.length; what++) {
            Check.due("walker(3, " + what + ")", due[what], ring.walker(3, what));
        }
        for (int w = 4; w < 7; w++) {
            Check.due("number " + w, w, ring.out(0));
        }
        Check.state("an 8th", () -> ring.out(0));
        Check.argument("an 8th of no pace", () -> ring.out(100));
        Check.due("WALKERS", 7, ring.count(0));
    }

    private static void paces() {
        Check.says("## Promise 12: pace");
        PromenadeRing ring = Check.ring(RING);
        Check.due("it was", 15, ring.pace(2, 0));
        Check.due("then", 0, ring.pace(2, 99));
        Check.due("PACE", 99, ring.walker(2, 1));
        Check.due("of another one", 6, ring.walker(0, 1));
        Check.argument("100", () -> ring.pace(2, 100));
        Check.argument("-1", () -> ring.pace(2, -1));
        Check.index("no walker comes first", () -> ring.pace(3, 100));
        Check.index("-1", () -> ring.pace(-1, 5));
        Check.due("as before", 99, ring.walker(2, 1));
    }

    private static void shunning() {
        Check.says("## Promise 13: shun");
        PromenadeRing ring = Check.ring(RING);
        Check.due("it does already", false, ring.shun(0, 1, true));
        Check.due("not any more", true, ring.shun(0, 1, false));
        Check.due("0 SHUNS none", 0, ring.walker(0, 2));
        Check.due("nor was it so", false, ring.shun(0, 1, false));
        Check.due("from now on", true, ring.shun(2, 1, true));
        Check.due("2 SHUNS 1", 2, ring.walker(2, 2));
        Check.due("1 does not SHUN 2", 0, ring.walker(1, 2));
        Check.due("by whom 1 is SHUNNED", 4, ring.walker(1, 12));
        Check.argument("both are one", () -> ring.shun(1, 1, true));
        Check.index("none and one", () -> ring.shun(3, 3, true));
        Check.index("the second one", () -> ring.shun(0, 3, true));
        Check.index("-1", () -> ring.shun(-1, 0, false));
        Check.due("0 comes by 1, and 2 by nobody", 1, ring.hours(2));
        Check.due("2 is 1 yard behind 1", 9, ring.walker(2, 0));
    }

    private static void mourning() {
        Check.says("## Promise 14: mourn");
        PromenadeRing ring = Check.ring(RING);
        Check.due("it is already", false, ring.mourn(1, true));
        Check.due("another one", true, ring.mourn(2, true));
        Check.due("in BLACK", 6, ring.black());
        Check.due("not any more", true, ring.mourn(1, false));
        Check.due("nor is it", false, ring.mourn(1, false));
        Check.due("in BLACK then", 1, ring.walker(2, 3));
        Check.due("not in BLACK then", 0, ring.walker(1, 3));
        Check.index("3", () -> ring.mourn(3, true));
        Check.index("-1", () -> ring.mourn(-1, true));
    }

    private static void moving() {
        Check.says("## Promise 15: move");
        PromenadeRing ring = Check.ring(RING);
        Check.due("it was", 10, ring.move(0, 39));
        Check.due("then", 39, ring.move(0, 0));
        Check.due("it is", 0, ring.shelter(0, 0));
        Check.due("the other one", 0, ring.shelter(1, 0));
        Check.index("shelter 2", () -> ring.move(2, 0));
        Check.index("shelter -1", () -> ring.move(-1, 0));
        Check.index("place 40", () -> ring.move(0, 40));
        Check.index("place -1", () -> ring.move(0, -1));
    }

    private static void lads() {
        Check.says("## Promise 16: lad");
        PromenadeRing ring = Check.ring(RING);
        int[] due = {25, 35, 45, 55, 65, 75, 85, 95, 99, 99};
        for (int pace : due) {
            Check.due("PACE then", pace, ring.lad(2));
            Check.due("PACE", pace, ring.walker(2, 1));
        }
        Check.index("3", () -> ring.lad(3));
        Check.index("-1", () -> ring.lad(-1));
    }

    private static void orders() {
        Check.says("## Promise 17: order");
        PromenadeRing ring = Check.ring("long 40;walker at 20 pace 1;walker at 10 pace 1;walker at 20 pace 1;walker at 25 pace 1");
        int[] due = {0, 2, 3, 1, PromenadeRing.NONE};
        for (int k = 0; k < due.length; k++) {
            Check.due("order(" + k + ")", due[k], ring.order(k));
        }
        Check.due("order(-1)", PromenadeRing.NONE, ring.order(-1));
        Check.due("of nobody", PromenadeRing.NONE, new PromenadeRing().order(0));
    }

    private static void places() {
        Check.says("## Promise 18: where");
        PromenadeRing ring = Check.ring(RING);
        int[][] due = {{5, 7, 8, 9, 10, 11}, {8, 9, 10, 11, 12, 13}, {30, 5, 20, 35, 10, 25}};
        for (int w = 0; w < 3; w++) {
            for (int n = 0; n < 6; n++) {
                Check.due("where(" + w + ", " + n + ")", due[w][n], ring.where(w, n));
            }
        }
        Check.due("1 in 200 HOURS", 8, ring.where(1, 200));
        Check.due("it still is", 30, ring.walker(2, 0));
        Check.argument("201", () -> ring.where(0, 201));
        Check.argument("-1", () -> ring.where(0, -1));
        Check.index("no walker comes first", () -> ring.where(3, -1));
    }

    private static void comingUp() {
        Check.says("## Promise 19: up");
        PromenadeRing ring = Check.ring(RING);
        Check.due("2 by 0", 2, ring.up(0, 2));
        Check.due("2 by 1", 2, ring.up(2, 1));
        Check.due("0 and 1", PromenadeRing.NONE, ring.up(0, 1));
        Check.argument("both are one", () -> ring.up(2, 2));
        Check.index("none and one", () -> ring.up(3, 3));
        Check.index("the second one", () -> ring.up(0, -1));
    }

    private static void circles() {
        Check.says("## Promise 20: circle");
        PromenadeRing ring = Check.ring(RING);
        int[][] due = {{2, 0, 0}, {2, 1, 0}, {2, 2, 3}, {0, 1, 0}, {0, 2, 4}, {0, 200, 4}, {1, 200, 4}};
        for (int[] row : due) {
            Check.due("circle(" + row[0] + ", " + row[1] + ")", row[2], ring.circle(row[0], row[1]));
        }
        Check.argument("201", () -> ring.circle(0, 201));
        Check.argument("-1", () -> ring.circle(0, -1));
        Check.index("no walker comes first", () -> ring.circle(3, 201));
    }

    private static void laps() {
        Check.says("## Promise 21: laps");
        PromenadeRing ring = Check.ring(RING);
        int[] due = {0, 1, 1, 1, 2, 2};
        for (int n = 0; n < due.length; n++) {
            Check.due("laps(2, " + n + ")", due[n], ring.laps(2, n));
        }
        Check.due("1 in 200 HOURS", 5, ring.laps(1, 200));
        ring.hours(5);
        Check.due("those that it has", 2, ring.laps(2, 0));
        Check.due("and one more", 3, ring.laps(2, 1));
        Check.argument("201", () -> ring.laps(0, 201));
        Check.argument("-1", () -> ring.laps(0, -1));
        Check.index("no walker comes first", () -> ring.laps(-1, -1));
    }

    private static void alone() {
        Check.says("## Promise 22: alone");
        PromenadeRing ring = Check.ring(RING);
        Check.law(ring, "stop");
        // 5, 11, 17, 23, 29, 35, 1, 7, ..: all odd, and all odd ones by 19.
        int[][] due = {{0, 5, 0}, {0, 11, 1}, {0, 1, 6}, {0, 39, 19}, {0, 6, PromenadeRing.NONE}, {1, 7, 39}, {1, 8, 0}};
        for (int[] row : due) {
            Check.due("alone(" + row[0] + ", " + row[1] + ")", row[2], ring.alone(row[0], row[1]));
        }
        Check.index("place 40", () -> ring.alone(0, 40));
        Check.index("place -1", () -> ring.alone(0, -1));
        Check.index("walker 3", () -> ring.alone(3, 0));
    }

    private static void both() {
        Check.says("## Promise 23: both");
        PromenadeRing ring = Check.ring(RING);
        // 5 and 6 n is 30 and 15 n by 40 when 9 n leaves 15; 5 n never leaves 3; 14 n leaves 18 first for 7.
        Check.due("0 and 2", 15, ring.both(0, 2));
        Check.due("0 and 1", PromenadeRing.NONE, ring.both(0, 1));
        Check.due("2 and 1", 7, ring.both(2, 1));
        Check.due("at one place now", 0, Check.ring("walker at 9 pace 1;walker at 9 pace 2").both(1, 0));
        Check.argument("both are one", () -> ring.both(1, 1));
        Check.index("none and one", () -> ring.both(3, 3));
        Check.index("-1", () -> ring.both(-1, 0));
    }

    private static void periods() {
        Check.says("## Promise 24: period");
        PromenadeRing ring = Check.ring(RING);
        int[] due = {20, 40, 8};
        for (int w = 0; w < due.length; w++) {
            Check.due("period(" + w + ")", due[w], ring.period(w));
        }
        ring.pace(0, 0);
        Check.due("of one who stands", 1, ring.period(0));
        Check.index("3", () -> ring.period(3));
        Check.index("-1", () -> ring.period(-1));
    }

    private static void standing() {
        Check.says("## Promise 25: stands");
        PromenadeRing ring = Check.ring(RING);
        int none = PromenadeRing.NONE;
        // 2 comes by both in the second HOUR, if it stands in neither; 0, standing, is come by in the first one. 2 cannot
        // meet 0 alone: whenever it is as near as 5 it comes by both.
        int[][] due = {{2, 3, 2, 0}, {2, 0, 2, 1}, {2, 1, 4, none}, {0, 4, 2, 0}, {0, 0, 2, none}, {0, 4, 1, 1}, {0, 0, 1, 0}};
        for (int[] row : due) {
            String call = "stands(" + row[0] + ", " + row[1] + ", " + row[2] + ")";
            Check.due(call, row[3], ring.stands(row[0], row[1], row[2]));
        }
        Check.due("itself and others than there are", 1, ring.stands(0, 4 | 1 | 8 | 1 << 31, 1));
        Check.argument("0 HOURS", () -> ring.stands(0, 0, 0));
        Check.argument("7 HOURS", () -> ring.stands(0, 0, 7));
        Check.nothingThrown("6 HOURS", () -> ring.stands(0, 0, 6));
        Check.index("no walker comes first", () -> ring.stands(3, 0, 7));
    }
}
