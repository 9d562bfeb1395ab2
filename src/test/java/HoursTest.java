/** Promises 10, 18 to 21 and 47 to 51: hours, where, up, circle, laps, trial, span, led, log, seed. */
public final class HoursTest {
    public static void main(String[] args) {
        twoHours();
        shunning();
        rounds();
        bounds();
        oneByOne();
        inSoMany();
        draws();
        trials();
        spans();
        logs();
        sixtyRows();
        Check.end("HoursTest");
    }

    private static void twoHours() {
        PromenadeRing ring = Check.ring(FiguresTest.FOUR);
        Check.argument("hours(0)", () -> ring.hours(0));
        Check.argument("hours(201)", () -> ring.hours(201));
        Check.argument("hours(-1)", () -> ring.hours(-1));
        Check.due("a call that throws is no ACT", 0, ring.count(10));
        Check.due("hours(1)", 1, ring.hours(1));
        places(ring, 7, 13, 37, 10);
        Check.due("HOUR", 10, ring.count(6));
        Check.due("hours(1) again", 5, ring.hours(1));
        places(ring, 14, 16, 49, 30);
        Check.due("HATS of all", 12, ring.count(8));
        PromenadeRing at = Check.ring(FiguresTest.FOUR);
        Check.due("hours(2)", 6, at.hours(2));
        places(at, 14, 16, 49, 30);
    }

    private static void places(PromenadeRing ring, int... due) {
        for (int w = 0; w < due.length; w++) {
            Check.due("PLACE of " + w, due[w], ring.walker(w, 0));
        }
    }

    private static void shunning() {
        PromenadeRing ring = Check.ring("long 50;walker at 0 pace 20;walker at 10 pace 0;walker at 5 pace 0;shuns 0 1");
        Check.due("to 1 yard behind, by the other one", 1, ring.hours(1));
        Check.due("there it stands", 9, ring.walker(0, 0));
        Check.due("and does not meet", 4, ring.walker(0, 6));
        Check.due("no yard more", 0, ring.hours(5));
        Check.due("there it stands still", 9, ring.walker(0, 0));
        PromenadeRing same = Check.ring("long 50;walker at 10 pace 20;walker at 10 pace 0;shuns 0 1");
        Check.due("GAP 0 does not matter", 0, same.hours(1));
        Check.due("it goes on", 30, same.walker(0, 0));
        Check.due("round to behind it", 0, same.hours(9));
        Check.due("behind it", 9, same.walker(0, 0));
        Check.due("once round", 1, same.walker(0, 5));
        PromenadeRing just = Check.ring("long 50;walker at 0 pace 10;walker at 10 pace 0;walker at 11 pace 0");
        Check.due("up to a PLACE is by it", 1, just.hours(1));
        Check.due("from there by the next one alone", 1, just.hours(1));
        PromenadeRing nearer = Check.ring("long 50;walker at 0 pace 40;walker at 30 pace 0;walker at 20 pace 0;shuns 0 1;shuns 0 2");
        nearer.hours(1);
        Check.due("behind any one", 19, nearer.walker(0, 0));
    }

    private static void rounds() {
        PromenadeRing ring = Check.ring("long 10;walker at 0 pace 99;walker at 5 pace 5;walker at 0 pace 0");
        int[] first = {0, 1, 2};
        int[] second = {1, 1, 2};
        for (int i = 0; i < 3; i++) {
            ring.hours(1);
            Check.due("ROUNDS by 9 yards", first[i], ring.walker(0, 5));
            Check.due("ROUNDS to PLACE 0 just so", second[i], ring.walker(1, 5));
            Check.due("ROUNDS of one who stands there", 0, ring.walker(2, 5));
        }
    }

    private static void bounds() {
        PromenadeRing ring = Check.ring("long 10;walker at 5 pace 0;walker at 0 pace 9;hour 1");
        for (int i = 0; i < 50; i++) {
            Check.due("nine of ten", 180, ring.hours(200));
        }
        Check.due("HATS", 999, ring.walker(0, 4));
        Check.due("HATS of the other one", 999, ring.walker(1, 4));
        Check.due("ROUNDS", 999, ring.walker(1, 5));
        Check.due("HOUR", 9999, ring.count(6));
        Check.due("of all", 1998, ring.count(8));
        Check.due("SHARE", 50, ring.walker(0, 13));
    }

    /** What one does is by all as it is then: by who went already in this HOUR, and by what was met in it. */
    private static void oneByOne() {
        PromenadeRing ring = Check.ring("long 50;walker at 0 pace 5;walker at 40 pace 12");
        Check.due("where it is by then", 0, ring.hours(1));
        PromenadeRing law = Check.ring("long 50;walker at 0 pace 5;walker at 3 pace 1;walker at 20 pace 1");
        Check.law(law, "haste 10 if met > 0");
        law.hours(1);
        Check.due("who was met just now hastens", 14, law.walker(1, 0));
        Check.due("who met nobody does not", 21, law.walker(2, 0));
        Check.due("who met while going did not", 5, law.walker(0, 0));
        Check.due("and 1 came by 0 again", 2, law.walker(0, 4));
    }

    private static void inSoMany() {
        PromenadeRing ring = Check.ring(FiguresTest.FOUR);
        int[][] due = {{0, 10, 25, 50}, {7, 13, 37, 10}, {14, 16, 49, 30}};
        for (int n = 0; n < 3; n++) {
            for (int w = 0; w < 4; w++) {
                Check.due("where(" + w + ", " + n + ")", due[n][w], ring.where(w, n));
            }
        }
        Check.due("laps(3, 0)", 0, ring.laps(3, 0));
        Check.due("laps(3, 1)", 1, ring.laps(3, 1));
        Check.due("circle(0, 0)", 0, ring.circle(0, 0));
        Check.due("circle(0, 1)", 8, ring.circle(0, 1));
        Check.due("circle(0, 2)", 10, ring.circle(0, 2));
        Check.due("circle(1, 2)", 9, ring.circle(1, 2));
        Check.due("up(0, 3)", 1, ring.up(0, 3));
        Check.due("up(3, 0)", 1, ring.up(3, 0));
        Check.due("up(1, 0)", 2, ring.up(1, 0));
        places(ring, 0, 10, 25, 50);
        Check.due("nothing stays", 0, ring.count(8) + ring.count(9) + ring.count(10));
        Check.due("no draws", 1, ring.seed(1));
        ring.hours(2);
        Check.due("laps are all ROUNDS", 1, ring.laps(3, 0));
        Check.due("the CIRCLE begins anew", 0, ring.circle(0, 0));
        PromenadeRing alike = Check.ring("walker at 0 pace 5;walker at 50 pace 5;walker at 1 pace 0");
        Check.due("up, none", -1, alike.up(0, 1));
        Check.due("circle of 200", 4, alike.circle(0, 200));
        PromenadeRing late = Check.ring("long 200;walker at 0 pace 1;walker at 199 pace 0;walker at 0 pace 0");
        Check.due("up in the 199th", 199, late.up(0, 1));
        Check.due("up in the 200th", 200, late.up(0, 2));
        PromenadeRing misty = Check.ring("walker at 0 pace 5;mist 100");
        Check.law(misty, "stop if misty");
        Check.due("it is not MISTY by no DRAW", 50, misty.where(0, 10));
        Check.promenade(misty, "misty;mist 0");
        Check.due("and stays MISTY", 0, misty.where(0, 10));
        wrongNumbers(ring);
    }

    private static void wrongNumbers(PromenadeRing ring) {
        Check.argument("where(0, 201)", () -> ring.where(0, 201));
        Check.argument("where(0, -1)", () -> ring.where(0, -1));
        Check.index("where(4, 201)", () -> ring.where(4, 201));
        Check.argument("laps(0, 201)", () -> ring.laps(0, 201));
        Check.argument("laps(0, -1)", () -> ring.laps(0, -1));
        Check.index("laps(-1, -1)", () -> ring.laps(-1, -1));
        Check.argument("circle(0, 201)", () -> ring.circle(0, 201));
        Check.argument("circle(0, -1)", () -> ring.circle(0, -1));
        Check.index("circle(4, 201)", () -> ring.circle(4, 201));
        Check.argument("up(1, 1)", () -> ring.up(1, 1));
        Check.index("up(4, 4)", () -> ring.up(4, 4));
        Check.index("up(0, 4)", () -> ring.up(0, 4));
        Check.index("up(-1, 0)", () -> ring.up(-1, 0));
        Check.argument("trial(201)", () -> ring.trial(201, true));
        Check.argument("trial(-1)", () -> ring.trial(-1, false));
        Check.argument("span(201)", () -> ring.span(201, true));
        Check.argument("span(-1)", () -> ring.span(-1, false));
        Check.index("led(4)", () -> ring.led(4, true));
        Check.index("led(-1)", () -> ring.led(-1, false));
        Check.element("log(0, 4)", () -> ring.log(0, 4));
        Check.element("log(99, -1)", () -> ring.log(99, -1));
    }

    /** From SEED 1 bits 16 to 30 are 16838, 5758, 10113, 17515, 31051, 5627, 23010, 7419, 16212, 4086. */
    private static void draws() {
        PromenadeRing ring = Check.ring("mist 40");
        int[] misty = {1, 0, 1, 1, 0, 1, 1, 1, 1, 0};
        for (int i = 0; i < misty.length; i++) {
            ring.hours(1);
            Check.due("MISTY behind HOUR " + i, misty[i], ring.count(7));
        }
        PromenadeRing edge = Check.ring("mist 38");
        edge.hours(1);
        Check.due("38 is not below 38", 0, edge.count(7));
        PromenadeRing drawn = Check.ring("mist 39;misty");
        drawn.hours(1);
        Check.due("38 is below 39", 1, drawn.count(7));
        Check.due("SEED then", 1103527590, drawn.seed(7));
        Check.due("SEED as told", 7, drawn.seed(-5));
        Check.due("SEED below 0", -5, drawn.seed(1));
        Check.due("a SEED is no ACT", 1, drawn.count(10));
        drawn.hours(3);
        PromenadeRing never = Check.ring("misty;mist 0");
        never.hours(1);
        Check.due("MIST 0", 0, never.count(7));
        Check.due("the DRAW always", 1103527590, never.seed(1));
        PromenadeRing ever = Check.ring("mist 100");
        Check.due("MIST 100", 200, ever.trial(200, true));
    }

    private static void trials() {
        PromenadeRing ring = Check.ring(FiguresTest.FOUR);
        Check.due("trial(0, false)", 0, ring.trial(0, false));
        Check.due("trial(0, true)", 0, ring.trial(0, true));
        Check.due("trial(1, false)", 2, ring.trial(1, false));
        Check.due("trial(2, false)", 12, ring.trial(2, false));
        Check.due("trial(1, true)", 1, ring.trial(1, true));
        Check.due("trial(5, true)", 3, ring.trial(5, true));
        Check.due("trial(10, true)", 7, ring.trial(10, true));
        Check.due("nothing stays", 1, ring.seed(1));
        places(ring, 0, 10, 25, 50);
        ring.hours(2);
        Check.due("from now", 12, ring.trial(0, false));
        Check.due("from now on draws", 2, ring.trial(2, true));
    }

    private static void spans() {
        // By PACE alone 0 comes to 1 each HOUR; when it is MISTY it stands.
        PromenadeRing ring = Check.ring("long 10;walker at 0 pace 9;walker at 1 pace 0;mist 50");
        Check.law(ring, "stop if misty and walker < 1");
        int least = 1000;
        int most = 0;
        for (int seed = 1; seed <= 6; seed++) {
            ring.seed(seed);
            least = Math.min(least, ring.trial(10, false));
            most = Math.max(most, ring.trial(10, false));
        }
        ring.seed(77);
        Check.due("the SEEDS matter", true, least < most);
        Check.due("the least", least, ring.span(10, false));
        Check.due("the greatest", most, ring.span(10, true));
        Check.due("SEED stays", 77, ring.seed(1));
        Check.due("span(0)", 0, ring.span(0, true));
        // The first DRAWS from SEED 1 to 6 are 38, 8, 47, 17, 55, 26 modulo 100, that from SEED 0 is 0.
        PromenadeRing first = Check.ring("long 10;walker at 0 pace 9;walker at 1 pace 0;mist 8");
        Check.law(first, "stop if misty");
        Check.due("none of them is below 8", 4, first.span(2, false));
        Check.promenade(first, "mist 9");
        Check.due("one of them is below 9", 2, first.span(2, false));
        Check.due("others are not", 4, first.span(2, true));
        Check.promenade(first, "mist 56");
        Check.due("all of them are below 56", 2, first.span(2, true));
        PromenadeRing four = Check.ring(FiguresTest.FOUR);
        four.hours(2);
        Check.due("of now", 12, four.span(0, false));
        Check.due("of nobody", 0, new PromenadeRing().span(200, true));
    }

    private static void logs() {
        PromenadeRing ring = Check.ring(FiguresTest.FOUR);
        Check.due("none yet", -1, ring.log(0, 0));
        ring.hours(2);
        int[][] due = {{10, 3, 1, 16}, {10, 3, 0, 14}, {10, 1, 0, 14}, {10, 0, 3, 10}, {10, 0, 1, 13}, {9, 3, 0, 7}, {-1, -1, -1, -1}};
        for (int ago = 0; ago < due.length; ago++) {
            for (int what = 0; what < 4; what++) {
                Check.due("log(" + ago + ", " + what + ")", due[ago][what], ring.log(ago, what));
            }
        }
        Check.due("log(-1, 0)", -1, ring.log(-1, 0));
        Check.due("log of the least", -1, ring.log(Integer.MIN_VALUE, 0));
        Check.due("log of the greatest", -1, ring.log(Integer.MAX_VALUE, 3));
        int[] rows = {2, 1, 0, 3};
        int[] hours = {10, 10, -1, 10};
        for (int w = 0; w < 4; w++) {
            Check.due("led(" + w + ", false)", rows[w], ring.led(w, false));
            Check.due("led(" + w + ", true)", hours[w], ring.led(w, true));
        }
    }

    private static void sixtyRows() {
        PromenadeRing ring = Check.ring("long 10;walker at 5 pace 0;walker at 0 pace 9;hour 999");
        ring.hours(200);
        Check.due("rows", 60, ring.count(9));
        Check.due("the latest", 1198, ring.log(0, 0));
        Check.due("the 60th", -1, ring.log(60, 0));
        Check.due("the oldest is there", true, ring.log(59, 0) > 0);
        Check.due("who", 1, ring.log(59, 1));
        Check.due("whom", 0, ring.log(59, 2));
        Check.due("where", 5, ring.log(59, 3));
        Check.due("all led", 60, ring.led(1, false));
        // Nine of ten HOURS have a row, so 60 rows go back over 66 or 67 HOURS.
        int back = ring.log(0, 0) - ring.log(59, 0);
        Check.due("so far back", true, back >= 65 && back <= 66);
    }
}
