/** Promises 26 to 55, one by one, on the promenade of {@link Promises1Test}. */
public final class Promises2Test {
    private static final String RING = Promises1Test.RING;
    private static final int NONE = PromenadeRing.NONE;

    public static void main(String[] args) {
        backs();
        asking();
        lengths();
        trying();
        calls();
        told();
        ears();
        farthest();
        few();
        seats();
        chases();
        couples();
        rests();
        odds();
        blackOnes();
        fastest();
        popular();
        twins();
        bunches();
        trials();
        spans();
        led();
        rows();
        seeds();
        undoing();
        images();
        counts();
        Check.end("Promises2Test");
    }

    private static int backs(PromenadeRing ring, int k, int... rows) {
        Check.put(ring, rows);
        return ring.backs(k);
    }

    private static int ask(PromenadeRing ring, int... rows) {
        Check.put(ring, rows);
        return ring.ask();
    }

    private static int round(PromenadeRing ring, boolean least, int... rows) {
        Check.put(ring, rows);
        return ring.round(least);
    }

    private static int tries(PromenadeRing ring, int... rows) {
        Check.put(ring, rows);
        return ring.tries();
    }

    private static int[] pairs(int n, int first, int second) {
        int[] rows = new int[2 * n];
        for (int i = 0; i < n; i++) {
            rows[2 * i] = first;
            rows[2 * i + 1] = second;
        }
        return rows;
    }

    private static void backs() {
        Check.says("## Promise 26: backs");
        PromenadeRing ring = Check.ring(RING);
        Check.due("none told", 6, backs(ring, NONE));
        Check.due("0 saw 2", 3, backs(ring, NONE, 0, 2));
        Check.due("2 saw 0", 3, backs(ring, NONE, 2, 0));
        // 1 2 0, 2 0 1 and 2 1 0, the hindmost first.
        int[] due = {1, 2, 0, NONE};
        for (int k = 0; k < due.length; k++) {
            Check.due("FIRST, " + k, due[k], backs(ring, k, 2, 0));
        }
        Check.due("FIRST, -2", NONE, backs(ring, -2, 2, 0));
        Check.due("none fits", 0, backs(ring, NONE, 0, 1, 1, 2, 2, 0));
        Check.due("no FIRST", NONE, backs(ring, 0, 0, 1, 1, 2, 2, 0));
        Check.due("40 bytes", 3, backs(ring, NONE, pairs(20, 1, 0)));
        Check.due("the TAPE is used up", false, ring.end(1));
        Check.due("of nobody", 1, backs(new PromenadeRing(), NONE));
        Check.argument("42 bytes", () -> backs(ring, NONE, pairs(21, 1, 0)));
        Check.argument("an odd one", () -> backs(ring, NONE, 0, 1, 2));
        Check.argument("no such WALKER", () -> backs(ring, NONE, 0, 3));
        Check.argument("none first", () -> backs(ring, NONE, 255, 0));
        Check.argument("both are one", () -> backs(ring, NONE, 2, 2));
        Check.due("the TAPE is used up by what throws", false, ring.end(1));
    }

    private static void asking() {
        Check.says("## Promise 27: ask");
        PromenadeRing ring = Check.ring(RING);
        Check.due("all pairs are alike: 0 and 1", 1, ask(ring));
        // 0 1 2, 0 2 1, 2 0 1: 0 and 2 parts them 2 and 1, as 1 and 2 does.
        Check.due("0 and 2", 2, ask(ring, 0, 1));
        // 0 1 2, 1 0 2: only 0 and 1 parts them.
        Check.due("0 and 1", 1, ask(ring, 0, 2, 1, 2));
        // 0 1 2, 0 2 1: only 1 and 2 parts them.
        Check.due("1 and 2", 10, ask(ring, 0, 1, 0, 2));
        Check.due("one alone fits", NONE, ask(ring, 0, 1, 1, 2));
        Check.due("none fits", NONE, ask(ring, 0, 1, 1, 0));
        Check.argument("an odd one", () -> ask(ring, 0));
        Check.argument("both are one", () -> ask(ring, 1, 1));
        Check.argument("no such WALKER", () -> ask(ring, 3, 1));
        Check.argument("42 bytes", () -> ask(ring, pairs(21, 1, 0)));
        Check.due("the TAPE is used up", false, ring.end(1));
    }

    private static void lengths() {
        Check.says("## Promise 28: round");
        PromenadeRing ring = Check.ring(RING);
        Check.due("none told", 191, round(ring, false));
        Check.due("none told, the least", 10, round(ring, true));
        // 10 12 15 20 30 60
        Check.due("60 again", 6, round(ring, false, 60, 1));
        Check.due("60 again, the least", 10, round(ring, true, 60, 1));
        Check.due("30 not", 3, round(ring, false, 60, 1, 30, 0));
        Check.due("30 not, the least", 12, round(ring, true, 60, 1, 30, 0));
        Check.due("7 again", 0, round(ring, false, 7, 1));
        Check.due("7 again, the least", NONE, round(ring, true, 7, 1));
        Check.due("0 is the same PLACE", 191, round(ring, false, 0, 1));
        Check.due("0 is no other PLACE", 0, round(ring, false, 0, 0));
        Check.due("40 bytes", 191, round(ring, false, pairs(20, 9, 0)));
        Check.argument("42 bytes", () -> round(ring, false, pairs(21, 9, 0)));
        Check.argument("neither 1 nor 0", () -> round(ring, false, 9, 2));
        Check.argument("an odd one", () -> round(ring, true, 9, 0, 9));
        Check.due("the TAPE is used up", false, ring.end(1));
    }

    private static void trying() {
        Check.says("## Promise 29: tries");
        PromenadeRing ring = Check.ring(RING);
        Check.due("30 parts them 3 and 3", 30, tries(ring, 60, 1));
        Check.due("12 parts 12 from 20 and 60", 12, tries(ring, 60, 1, 30, 0));
        Check.due("one alone fits", NONE, tries(ring, 60, 1, 30, 0, 20, 0, 12, 0));
        Check.due("none fits", NONE, tries(ring, 7, 1));
        Check.argument("neither 1 nor 0", () -> tries(ring, 9, 255));
        Check.argument("an odd one", () -> tries(ring, 9));
        Check.argument("42 bytes", () -> tries(ring, pairs(21, 9, 0)));
        Check.due("the TAPE is used up", false, ring.end(1));
    }

    private static void calls() {
        Check.says("## Promise 30: calls");
        PromenadeRing ring = Check.ring(RING);
        int[][] due = {{0, 2, 25, 1}, {0, 2, 24, 2}, {0, 2, 22, 2}, {0, 2, 21, NONE}, {2, 1, 18, 1}, {2, 1, 17, 2}, {2, 1, 14, NONE},
            {1, 0, 37, 1}, {0, 0, 1, 0}, {1, 0, 200, 1}};
        for (int[] row : due) {
            String call = "calls(" + row[0] + ", " + row[1] + ", " + row[2] + ")";
            Check.due(call, row[3], ring.calls(row[0], row[1], row[2]));
        }
        Check.argument("0 yards", () -> ring.calls(0, 1, 0));
        Check.argument("201 yards", () -> ring.calls(0, 1, 201));
        Check.index("no walker comes first", () -> ring.calls(3, 0, 0));
        Check.index("the second one", () -> ring.calls(0, -1, 1));
    }

    private static void told() {
        Check.says("## Promise 31: told");
        PromenadeRing ring = Check.ring(RING);
        int[][] due = {{0, 2, 1}, {0, 3, 3}, {0, 21, 3}, {0, 22, 7}, {2, 14, 4}, {2, 15, 7}, {1, 21, 2}, {1, 200, 7}};
        for (int[] row : due) {
            Check.due("told(" + row[0] + ", " + row[1] + ")", row[2], ring.told(row[0], row[1]));
        }
        Check.argument("0 yards", () -> ring.told(0, 0));
        Check.argument("201 yards", () -> ring.told(0, 201));
        Check.index("no walker comes first", () -> ring.told(3, 0));
    }

    private static void ears() {
        Check.says("## Promise 32: ear");
        Check.due("over the longest stretch", 22, Check.ring(RING).ear());
        Check.due("one alone", 1, Check.ring("walker at 9 pace 1").ear());
        Check.due("two at one place", 1, Check.ring("walker at 9 pace 1;walker at 9 pace 1").ear());
        Check.due("two one yard apart", 199, Check.ring("long 200;walker at 9 pace 1;walker at 10 pace 1").ear());
        Check.due("nobody", NONE, new PromenadeRing().ear());
    }

    private static void farthest() {
        Check.says("## Promise 33: farthest");
        PromenadeRing ring = Check.ring(RING);
        Check.due("10 yards", 2, ring.farthest());
        ring.move(1, 35);
        Check.due("0 and 2 have 5", 0, ring.farthest());
        Check.due("without SHELTERS", NONE, Check.ring("walker at 1 pace 1").farthest());
        Check.due("without WALKERS", NONE, Check.ring("shelter at 1 seats 1").farthest());
    }

    private static void few() {
        Check.says("## Promise 34: few");
        PromenadeRing ring = Check.ring(RING);
        int[][] due = {{9, NONE}, {10, 3}, {19, 3}, {20, 1}, {35, 1}, {199, 1}};
        for (int[] row : due) {
            Check.due("few(" + row[0] + ")", row[1], ring.few(row[0]));
        }
        ring.move(0, 4);
        Check.due("by 1 alone", 2, ring.few(35));
        Check.argument("200", () -> ring.few(200));
        Check.argument("-1", () -> ring.few(-1));
        Check.due("without WALKERS", 0, Check.ring("shelter at 1 seats 1").few(0));
        Check.due("without SHELTERS", NONE, Check.ring("walker at 1 pace 1").few(199));
    }

    private static void seats() {
        Check.says("## Promise 35: seated");
        PromenadeRing ring = Check.ring(RING);
        // 5 and 32 and 10 are 47, as 35 and 2 and 10 are: 0 comes first.
        int[] due = {0, 1, 1};
        Check.due("all three", 3, ring.seated(NONE));
        for (int w = 0; w < due.length; w++) {
            Check.due("where " + w + " is", due[w], ring.seated(w));
        }
        PromenadeRing tight = Check.ring("long 40;walker at 5 pace 1;walker at 8 pace 1;shelter at 10 seats 1");
        Check.due("one seat", 1, tight.seated(NONE));
        Check.due("none is left for 0", NONE, tight.seated(0));
        Check.due("1 is nearer", 0, tight.seated(1));
        Check.index("3", () -> ring.seated(3));
        Check.index("-2", () -> ring.seated(-2));
        Check.says("## Promise 36: swaps");
        Check.due("nobody would", 0, ring.swaps());
        Check.due("of nobody", 0, new PromenadeRing().swaps());
    }

    private static void chases() {
        Check.says("## Promise 37: chase");
        PromenadeRing ring = new PromenadeRing();
        int[][] due = {{1, 1, 1}, {1, 20, 1}, {1, 0, NONE}, {2, 20, NONE}, {3, 20, NONE}, {40, 20, NONE}};
        for (int[] row : due) {
            Check.due("chase(" + row[0] + ", " + row[1] + ")", row[2], ring.chase(row[0], row[1]));
        }
        int[][] wrong = {{0, 1}, {41, 1}, {-1, 1}, {1, -1}, {1, 21}};
        for (int[] row : wrong) {
            Check.argument("chase(" + row[0] + ", " + row[1] + ")", () -> ring.chase(row[0], row[1]));
        }
    }

    private static void couples() {
        Check.says("## Promise 38: couples");
        PromenadeRing ring = Check.ring(RING);
        // 0 SHUNS 1, so 0 and 2 (15 yards back) or 1 and 2 (18 back) are left.
        check("0 SHUNS 1", ring, 1, 2, NONE, 0);
        ring.shun(0, 1, false);
        check("0 and 1 are 3 yards apart", ring, 1, 1, 0, NONE);
        ring.shun(1, 0, true);
        ring.shun(2, 1, true);
        ring.shun(2, 0, true);
        check("nobody fits", ring, 0, NONE, NONE, NONE);
        Check.index("3", () -> ring.couples(3));
        Check.index("-2", () -> ring.couples(-2));
    }

    private static void check(String what, PromenadeRing ring, int pairs, int... with) {
        Check.due(what + ": pairs", pairs, ring.couples(NONE));
        for (int w = 0; w < with.length; w++) {
            Check.due(what + ": with " + w, with[w], ring.couples(w));
        }
    }

    private static void rests() {
        Check.says("## Promise 39: rests");
        PromenadeRing ring = Check.ring(RING);
        Check.due("both raise, or neither", 9, ring.rests(0, 1));
        ring.hours(100);
        Check.due("with HATS", 9, ring.rests(1, 2));
        Check.argument("both are one", () -> ring.rests(1, 1));
        Check.index("none and one", () -> ring.rests(3, 3));
        Check.index("-1", () -> ring.rests(0, -1));
    }

    private static void odds() {
        Check.says("## Promise 40: odds");
        PromenadeRing ring = Check.ring(RING);
        int[][] due = {{0, 0, 10000}, {0, 1, 0}, {1, 1, 5000}, {2, 1, 7500}, {3, 2, 5000}, {5, 5, 312}, {5, 4, 1875}, {2, 3, 0}};
        for (int[] row : due) {
            Check.due("odds(" + row[0] + ", " + row[1] + ")", row[2], ring.odds(row[0], row[1]));
        }
        int[][] wrong = {{6, 0}, {-1, 0}, {0, 6}, {0, -1}};
        for (int[] row : wrong) {
            Check.argument("odds(" + row[0] + ", " + row[1] + ")", () -> ring.odds(row[0], row[1]));
        }
    }

    private static void blackOnes() {
        PromenadeRing ring = Check.ring(RING);
        int[][] due = {{1, 2, 0}, {0, 3, 3}, {2, 7, 18}};
        for (int[] row : due) {
            ring.mourn(row[0], true);
            Check.says("## Promise 41: black");
            Check.due("in BLACK, with " + row[0], row[1], ring.black());
            Check.says("## Promise 42: stretch");
            Check.due("STRETCH, with " + row[0], row[2], ring.stretch());
        }
        ring.mourn(1, false);
        Check.due("from 2 to 0", 15, ring.stretch());
        Check.due("of nobody", 0, new PromenadeRing().stretch());
        Check.due("nobody in BLACK", 0, new PromenadeRing().black());
    }

    private static void fastest() {
        Check.says("## Promise 43: fastest");
        PromenadeRing ring = Check.ring(RING);
        Check.due("the fastest", 2, ring.fastest(true));
        Check.due("the slowest", 1, ring.fastest(false));
        Check.law(ring, "haste 30 if hears;slow 7 if at > 20");
        // 36, 31 and 8
        Check.due("by STRIDE", 0, ring.fastest(true));
        Check.due("slowest by STRIDE", 2, ring.fastest(false));
        Check.law(ring, "stop");
        Check.due("of several the least", 0, ring.fastest(true));
        Check.due("of several slow ones the least", 0, ring.fastest(false));
        Check.due("of nobody", NONE, new PromenadeRing().fastest(true));
        Check.due("of nobody slow", NONE, new PromenadeRing().fastest(false));
    }

    private static void popular() {
        Check.says("## Promise 44: popular");
        PromenadeRing ring = Check.ring(RING);
        Check.due("nobody MET any", 0, ring.popular());
        ring.hours(2);
        Check.due("2 MET both", 2, ring.popular());
        Check.due("of nobody", NONE, new PromenadeRing().popular());
    }

    private static void twins() {
        Check.says("## Promise 45: twins");
        PromenadeRing ring = Check.ring("walker at 5 pace 6;walker at 5 pace 6;walker at 5 pace 7;walker at 6 pace 6;walker at 5 pace 6");
        Check.due("0 and 1, 0 and 4, 1 and 4", 3, ring.twins());
        Check.due("none", 0, Check.ring(RING).twins());
        Check.due("of nobody", 0, new PromenadeRing().twins());
    }

    private static void bunches() {
        Check.says("## Promise 46: bunch");
        PromenadeRing ring = Check.ring(RING);
        int[][] due = {{0, 1}, {2, 1}, {3, 2}, {17, 2}, {18, 3}, {199, 3}};
        for (int[] row : due) {
            Check.due("bunch(" + row[0] + ")", row[1], ring.bunch(row[0]));
        }
        Check.argument("-1", () -> ring.bunch(-1));
        Check.argument("200", () -> ring.bunch(200));
        Check.due("of nobody", 0, new PromenadeRing().bunch(5));
    }

    private static void trials() {
        Check.says("## Promise 47: trial");
        PromenadeRing ring = Check.ring(RING);
        // Draws from SEED 1, modulo 100: 38 58 13 15 51.
        int[][] due = {{0, 0, 0}, {1, 0, 1}, {2, 4, 1}, {3, 4, 2}, {4, 6, 3}, {5, 10, 3}};
        for (int[] row : due) {
            Check.due("HATS in " + row[0], row[1], ring.trial(row[0], false));
            Check.due("MISTY in " + row[0], row[2], ring.trial(row[0], true));
        }
        Check.due("HOUR stays", 3, ring.count(6));
        Check.due("SEED stays", 1, ring.seed(1));
        Check.due("2 stays", 30, ring.walker(2, 0));
        Check.due("no row comes", 0, ring.count(9));
        Check.argument("-1", () -> ring.trial(-1, true));
        Check.argument("201", () -> ring.trial(201, false));
        Check.nothingThrown("200", () -> ring.trial(200, false));
    }

    private static void spans() {
        Check.says("## Promise 48: span");
        PromenadeRing ring = Check.ring("long 10;walker at 0 pace 1;walker at 5 pace 0;mist 30");
        Check.law(ring, "haste 9 if misty");
        // The first draw from SEED 1 is 16838, so there is no mist; from SEED 2 it is 908, and both come by each other.
        Check.due("the least", 0, ring.span(2, false));
        Check.due("the greatest", 4, ring.span(2, true));
        Check.due("in no HOUR", 0, ring.span(0, true));
        ring.seed(77);
        Check.due("whatever SEED is", 4, ring.span(2, true));
        Check.due("SEED stays", 77, ring.seed(77));
        Check.argument("-1", () -> ring.span(-1, true));
        Check.argument("201", () -> ring.span(201, false));
    }

    private static void led() {
        Check.says("## Promise 49: led");
        PromenadeRing ring = Check.ring(RING);
        Check.due("none yet", 0, ring.led(2, false));
        Check.due("no HOUR yet", NONE, ring.led(2, true));
        ring.hours(5);
        int[][] due = {{0, 0, NONE}, {1, 0, NONE}, {2, 5, 7}};
        for (int[] row : due) {
            Check.due("rows of " + row[0], row[1], ring.led(row[0], false));
            Check.due("HOUR of " + row[0], row[2], ring.led(row[0], true));
        }
        Check.index("3", () -> ring.led(3, true));
        Check.index("-1", () -> ring.led(-1, false));
    }

    private static void rows() {
        Check.says("## Promise 50: log");
        PromenadeRing ring = Check.ring(RING);
        Check.due("without", NONE, ring.log(0, 0));
        ring.hours(5);
        int[][] due = {{7, 2, 1, 13}, {7, 2, 0, 11}, {6, 2, 0, 10}, {4, 2, 1, 10}, {4, 2, 0, 8}, {NONE, NONE, NONE, NONE}};
        for (int ago = 0; ago < due.length; ago++) {
            for (int what = 0; what < 4; what++) {
                Check.due("log(" + ago + ", " + what + ")", due[ago][what], ring.log(ago, what));
            }
        }
        Check.due("-1 ago", NONE, ring.log(-1, 0));
        Check.element("what 4", () -> ring.log(0, 4));
        Check.element("what -1", () -> ring.log(0, -1));
        Check.element("another what comes first", () -> ring.log(60, 4));
    }

    private static void seeds() {
        Check.says("## Promise 51: seed");
        PromenadeRing ring = Check.ring(RING);
        Check.due("at first", 1, ring.seed(-5));
        Check.due("then", -5, ring.seed(1));
        ring.hours(1);
        Check.due("by one draw", 1103527590, ring.seed(2));
        ring.hours(1);
        Check.due("from 2", (int) 2207042835L, ring.seed(0));
    }

    private static void undoing() {
        Check.says("## Promise 52: undo");
        PromenadeRing ring = Check.ring(RING);
        String before = Picture.of(ring);
        Check.due("none", false, ring.undo());
        ring.hours(9);
        ring.out(4);
        ring.pace(0, 9);
        ring.shun(2, 1, true);
        ring.mourn(1, false);
        ring.move(1, 9);
        ring.lad(2);
        for (int n = 7; n >= 1; n--) {
            Check.due("acts", n, ring.count(10));
            Check.due("one more", true, ring.undo());
        }
        Check.due("all is as it was", before, Picture.of(ring));
        Check.due("no more", false, ring.undo());
        for (int i = 0; i < 13; i++) {
            ring.lad(1);
        }
        for (int i = 0; i < 12; i++) {
            Check.due("12 are remembered", true, ring.undo());
        }
        Check.due("the 13th is not", false, ring.undo());
        Check.due("one lad came", 11, ring.walker(1, 1));
        ring.lad(1);
        Check.law(ring, "stop");
        Check.due("none behind a text", false, ring.undo());
    }

    private static void images() {
        PromenadeRing ring = Check.ring(RING);
        Check.says("## Promise 54: back");
        Check.due("none was kept", false, ring.back());
        Check.law(ring, "slow 1");
        String kept = Picture.of(ring);
        Check.says("## Promise 53: image");
        ring.image();
        Check.due("nothing else changes", kept, Picture.of(ring));
        ring.hours(7);
        Check.promenade(ring, "walker at 2 pace 2");
        Check.law(ring, "stop;stop");
        Check.due("gone back", true, ring.back());
        Check.due("all is as it was", kept, Picture.of(ring));
        ring.lad(0);
        String later = Picture.of(ring);
        ring.image();
        ring.lad(0);
        Check.due("gone back again", true, ring.back());
        Check.due("an act is not remembered", false, ring.undo());
        ring.lad(0);
        ring.undo();
        Check.due("the later one", later.replace(" count 1 walker", " count 0 walker"), Picture.of(ring));
    }

    private static void counts() {
        Check.says("## Promise 55: count");
        PromenadeRing ring = Check.ring(RING);
        Check.law(ring, "slow 99 if misty and 3 < 2;haste 0");
        ring.hours(5);
        ring.lad(0);
        int[] due = {3, 2, 1, 2, 40, 12, 8, 0, 10, 5, 2};
        for (int what = 0; what < due.length; what++) {
            Check.due("count(" + what + ")", due[what], ring.count(what));
        }
        Check.due("count(-1)", NONE, ring.count(-1));
        Check.due("count(11)", NONE, ring.count(11));
        Check.due("MISTY 4 HOURS on", 1, misty(4));
    }

    private static int misty(int hours) {
        PromenadeRing ring = Check.ring(RING);
        ring.hours(hours);
        return ring.count(7);
    }
}
