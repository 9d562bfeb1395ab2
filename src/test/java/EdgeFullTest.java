/** Each call on a ring of nobody, of one alone, and on one that is as full as can be. */
public final class EdgeFullTest {
    /** Seven in a ring of seventy yards, each 10 yards behind the next one and going 10; four SHELTERS with seven SEATS; 14 LINES. */
    private static final String FULL = "long 70;walker at 0 pace 10 black;walker at 10 pace 10 black;walker at 20 pace 10 black;"
        + "walker at 30 pace 10 black;walker at 40 pace 10 black;walker at 50 pace 10 black;walker at 60 pace 10 black;"
        + "shelter at 0 seats 1;shelter at 20 seats 2;shelter at 40 seats 3;shelter at 60 seats 1;band 69;mist 100";

    public static void main(String[] args) {
        nobody();
        nobodyThrows();
        nobodyWalks();
        oneAlone();
        fullFigures();
        fullHour();
        fullAsked();
        fullTogether();
        fullSeats();
        fullOfAll();
        Check.end("EdgeFullTest");
    }

    private static void nobody() {
        PromenadeRing ring = new PromenadeRing();
        Check.says("0 WALKERS, 1 SHELTERS, 2 texts of THE PROMENADE, 3 LINES of THE LAW (NONE without one), 4 LONG, 5 the PLACE of the BAND, "
            + "6 HOUR, 7 1 if it is MISTY, 8 HATS of all together, 9 rows of THE LOG, 10 acts that can be UNDONE.");
        int[] counts = {0, 0, 0, -1, 100, 0, 0, 0, 0, 0, 0};
        for (int what = 0; what < counts.length; what++) {
            Check.due("count(" + what + ")", counts[what], ring.count(what));
        }
        Check.says("A promenade of nobody.");
        Check.due("fault", -1, ring.fault());
        Check.due("order", -1, ring.order(0));
        Check.due("backs", 1, ring.backs(-1));
        Check.due("FIRST", -1, ring.backs(0));
        Check.due("ask", -1, ring.ask());
        Check.due("round", 191, ring.round(false));
        Check.due("ear", -1, ring.ear());
        Check.due("farthest", -1, ring.farthest());
        Check.due("few", 0, ring.few(0));
        Check.due("seated", 0, ring.seated(-1));
        Check.due("swaps", 0, ring.swaps());
        Check.due("couples", 0, ring.couples(-1));
        Check.due("odds", 0, ring.odds(5, 1));
        Check.due("black", 0, ring.black());
        Check.due("stretch", 0, ring.stretch());
        Check.due("fastest", -1, ring.fastest(true));
        Check.due("slowest", -1, ring.fastest(false));
        Check.due("popular", -1, ring.popular());
        Check.due("twins", 0, ring.twins());
        Check.due("bunch", 0, ring.bunch(0));
        Check.due("trial", 0, ring.trial(200, false));
        Check.due("trial, MISTY", 0, ring.trial(200, true));
        Check.due("span", 0, ring.span(200, true));
        Check.due("log", -1, ring.log(0, 0));
        Check.due("seed", 1, ring.seed(1));
        Check.due("undo", false, ring.undo());
        Check.due("back", false, ring.back());
    }

    private static void nobodyThrows() {
        Check.says("IndexOutOfBoundsException: there is no such WALKER, SHELTER, PLACE.");
        PromenadeRing ring = new PromenadeRing();
        Check.Call[] calls = {() -> ring.walker(0, 0), () -> ring.shelter(0, 0), () -> ring.pace(0, 0), () -> ring.shun(0, 1, true),
            () -> ring.mourn(0, true), () -> ring.move(0, 0), () -> ring.lad(0), () -> ring.where(0, 0), () -> ring.up(0, 0),
            () -> ring.circle(0, 0), () -> ring.laps(0, 0), () -> ring.alone(0, 0), () -> ring.both(0, 0), () -> ring.period(0),
            () -> ring.stands(0, 0, 1), () -> ring.calls(0, 0, 1), () -> ring.told(0, 1), () -> ring.seated(0), () -> ring.couples(0),
            () -> ring.rests(0, 0), () -> ring.led(0, false)};
        for (int i = 0; i < calls.length; i++) {
            Check.index("call " + i, calls[i]);
        }
    }

    private static void nobodyWalks() {
        Check.says("So many HOURS more (1 to 200): how often one came by another one in these.");
        PromenadeRing ring = new PromenadeRing();
        Check.due("200", 0, ring.hours(200));
        Check.due("HOUR", 200, ring.count(6));
        Check.due("an ACT", 1, ring.count(10));
        Check.due("undone", true, ring.undo());
        Check.due("HOUR again", 0, ring.count(6));
        Check.due("SEED again", 1, ring.seed(1));
    }

    private static void oneAlone() {
        Check.says("AHEAD of a WALKER: the other one of the least GAP");
        PromenadeRing ring = Check.ring("long 200;walker at 199 pace 99");
        int[] due = {199, 99, 0, 0, 0, 0, 0, 99, -1, -1, -1, 0, 0, 0};
        for (int what = 0; what < due.length; what++) {
            Check.due("walker(0, " + what + ")", due[what], ring.walker(0, what));
        }
        Check.due("where", 98, ring.where(0, 1));
        Check.due("circle", 0, ring.circle(0, 200));
        Check.due("stands", 0, ring.stands(0, -1, 6));
        Check.due("order", 0, ring.order(0));
        Check.due("calls", 0, ring.calls(0, 0, 1));
        Check.due("told", 1, ring.told(0, 200));
        Check.due("ear", 1, ring.ear());
        Check.due("seated", -1, ring.seated(0));
        Check.due("couples", -1, ring.couples(0));
        Check.due("fastest", 0, ring.fastest(true));
        Check.due("popular", 0, ring.popular());
        Check.due("bunch", 1, ring.bunch(199));
        Check.due("hours", 0, ring.hours(200));
        Check.due("HATS", 0, ring.count(8));
        Check.due("ROUNDS by 200 times 99 yards from 199", (199 + 200 * 99) / 200, ring.walker(0, 5));
    }

    private static void fullFigures() {
        Check.says("WALKERS (at most 7, numbered from 0 on)");
        PromenadeRing ring = Check.ring(FULL);
        Check.due("WALKERS", 7, ring.count(0));
        Check.due("SHELTERS", 4, ring.count(1));
        for (int w = 0; w < 7; w++) {
            Check.due("PLACE of " + w, 10 * w, ring.walker(w, 0));
            Check.due("STRIDE of " + w, 10, ring.walker(w, 7));
            Check.due("AHEAD of " + w, (w + 1) % 7, ring.walker(w, 8));
            Check.due("GAP of " + w, 10, ring.walker(w, 9));
            Check.due("FAR of " + w, w % 2 == 0 ? 0 : 10, ring.walker(w, 10));
            Check.due("order(" + w + ")", w, ring.order(w));
            Check.due("period of " + w, 7, ring.period(w));
        }
        Check.due("order(7)", -1, ring.order(7));
        Check.due("FAR the most", 1, ring.farthest());
        Check.due("all SHELTERS are needed for 10 yards", 15, ring.few(10));
        Check.due("not for 0", -1, ring.few(0));
        Check.due("BEST of the first one", 0, ring.shelter(0, 2));
        Check.due("BEST of the last one", 50, ring.shelter(3, 2));
    }

    /** In an HOUR each but 6 comes by the next one, which has not gone yet; 6 finds 0 twenty yards on. */
    private static void fullHour() {
        Check.says("each WALKER, by numbers, by all as it is then");
        PromenadeRing ring = Check.ring(FULL);
        Check.due("six", 6, ring.hours(1));
        for (int w = 0; w < 7; w++) {
            Check.due("PLACE of " + w, 10 * (w + 1) % 70, ring.walker(w, 0));
            int met = (w > 0 ? 1 << w - 1 : 0) | (w < 6 ? 1 << w + 1 : 0);
            Check.due("MET by " + w, met, ring.walker(w, 6));
            Check.due("HATS of " + w, Integer.bitCount(met), ring.walker(w, 4));
            Check.due("ROUNDS of " + w, w == 6 ? 1 : 0, ring.walker(w, 5));
        }
        for (int ago = 0; ago < 6; ago++) {
            Check.due("who, " + ago + " ago", 5 - ago, ring.log(ago, 1));
            Check.due("whom, " + ago + " ago", 6 - ago, ring.log(ago, 2));
            Check.due("where, " + ago + " ago", 10 * (6 - ago), ring.log(ago, 3));
        }
        Check.due("MISTY", 1, ring.count(7));
        Check.due("SHARE of 1 of 12", 8, ring.walker(0, 13));
        Check.due("SHARE of 2 of 12", 16, ring.walker(1, 13));
        Check.due("the first of those who MET two", 1, ring.popular());
        Check.due("200 HOURS", 1200, Check.ring(FULL).hours(200));
    }

    private static void fullAsked() {
        Check.says("CIRCLE of a WALKER and N (0 to 200)");
        PromenadeRing ring = Check.ring(FULL);
        for (int w = 0; w < 7; w++) {
            int circle = (w > 0 ? 1 << w - 1 : 0) | (w < 6 ? 1 << w + 1 : 0);
            Check.due("circle of " + w, circle, ring.circle(w, 1));
            Check.due("circle of 200 of " + w, circle, ring.circle(w, 200));
            Check.due("NEVER of " + w, 127 & ~circle & ~(1 << w), ring.walker(w, 11));
            Check.due("told by " + w, 127, ring.told(w, 10));
            Check.due("alone of " + w, (7 - w) % 7, ring.alone(w, 0));
            Check.due("laps of " + w, (10 * w + 2000) / 70, ring.laps(w, 200));
        }
        Check.due("up of neighbours", 1, ring.up(5, 6));
        Check.due("up of the last and the first", -1, ring.up(6, 0));
        Check.due("both", -1, ring.both(5, 6));
        Check.due("calls", 6, ring.calls(0, 6, 10));
        Check.due("no calls", -1, ring.calls(0, 6, 9));
        Check.due("ear", 10, ring.ear());
        // If 6 stands, 5 comes by it all the same; if 0 stands, it meets nobody and 6 comes up to it.
        Check.due("6 as it goes", 0, ring.stands(6, 32, 1));
        Check.due("0 with 6", 1, ring.stands(0, 64, 1));
        Check.due("0 with nobody", -1, ring.stands(0, 0, 1));
        Check.due("backs", 5040, ring.backs(-1));
        Check.due("the last of FIRST", 6, ring.backs(6));
        Check.due("ask", 1, ring.ask());
    }

    private static void fullTogether() {
        Check.says("as many pairs as can be");
        PromenadeRing ring = Check.ring(FULL);
        int[] with = {1, 0, 3, 2, 5, 4, -1};
        for (int w = 0; w < 7; w++) {
            Check.due("couples(" + w + ")", with[w], ring.couples(w));
        }
        Check.due("pairs", 3, ring.couples(-1));
        Check.due("rests", 9, ring.rests(6, 0));
        Check.due("black", 127, ring.black());
        Check.due("stretch", 60, ring.stretch());
        Check.due("fastest", 0, ring.fastest(true));
        Check.due("twins", 0, ring.twins());
        Check.due("bunch(59)", 6, ring.bunch(59));
        Check.due("bunch(60)", 7, ring.bunch(60));
        Check.due("trial", 12, ring.trial(1, false));
        Check.due("trial, MISTY", 200, ring.trial(200, true));
        Check.due("span", 24, ring.span(2, true));
    }

    private static void fullSeats() {
        Check.says("as many as can be are seated");
        PromenadeRing ring = Check.ring(FULL);
        // All SEATS are taken: somebody goes once round, 80 yards in all, whoever it is; the first way is by numbers.
        int[] where = {0, 1, 1, 2, 2, 2, 3};
        for (int w = 0; w < 7; w++) {
            Check.due("seated(" + w + ")", where[w], ring.seated(w));
        }
        Check.due("all seven", 7, ring.seated(-1));
        Check.due("swaps", 0, ring.swaps());
        PromenadeRing most = Check.ring(Check.lines("walker at 9 pace 0", 7) + ";" + Check.lines("shelter at 9 seats 3", 4));
        int[] first = {0, 0, 0, 1, 1, 1, 2};
        for (int w = 0; w < 7; w++) {
            Check.due("of twelve SEATS: seated(" + w + ")", first[w], most.seated(w));
        }
    }

    private static void fullOfAll() {
        Check.says("An object is used for at most 512 calls after it has been made");
        PromenadeRing ring = Check.ring(FULL);
        for (int i = 1; i < 12; i++) {
            Check.promenade(ring, Check.lines("hour 999", 14));
        }
        Check.law(ring, Check.lines("haste 99 if not (not (misty))", 11) + ";stop if black");
        for (int i = 0; i < 13; i++) {
            ring.hours(200);
        }
        int[] counts = {7, 4, 12, 12, 70, 69, 3599, 1, 0, 0, 12};
        for (int what = 0; what < counts.length; what++) {
            Check.due("count(" + what + ")", counts[what], ring.count(what));
        }
        for (int w = 0; w < 7; w++) {
            ring.mourn(w, false);
        }
        Check.law(ring, "");
        for (int i = 0; i < 12; i++) {
            ring.hours(200);
        }
        Check.due("rows", 60, ring.count(9));
        Check.due("HATS of all", 7 * 999, ring.count(8));
        Check.due("SHARE", 14, ring.walker(6, 13));
        Check.due("ACTS", 12, ring.count(10));
    }
}
