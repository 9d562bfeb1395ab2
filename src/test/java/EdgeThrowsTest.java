import java.util.ArrayList;
import java.util.List;

/**
 * Each call that is refused: with the number just outside it throws what the document names, with the one just inside
 * it does not, and of a call that throws nothing stays.
 */
public final class EdgeThrowsTest {
    interface OfOne {
        Object answer(PromenadeRing ring, int n);
    }

    /** A call that takes numbers from the least to the most, and the document's words for it. */
    record Bounded(String says, int least, int most, OfOne call) {
    }

    /** A call of one WALKER, SHELTER or PLACE, and the document's words for it. */
    record Named(String says, OfOne call) {
    }

    private static final String RING = "long 50;walker at 5 pace 30;walker at 20 pace 3 black;walker at 20 pace 0;shuns 1 2;"
        + "shelter at 7 seats 1;shelter at 9 seats 2;band 3;mist 50;hour 4";
    private static final int WALKERS = 3;
    private static final int SHELTERS = 2;
    private static final int LONG = 50;
    /** So many of the first calls with bounds are ACTS. */
    private static final int ACTS = 3;

    public static void main(String[] args) {
        numbers();
        walkers();
        shelters();
        places();
        twoAreOne();
        whats();
        cannotBe();
        firstTold();
        rows();
        texts();
        answersChangeNothing();
        Check.end("EdgeThrowsTest");
    }

    /** With three ACTS, an image, rows in THE LOG, a law, a fault and seven bytes of TAPE. */
    private static PromenadeRing busy() {
        PromenadeRing ring = Check.ring(RING);
        Check.law(ring, "slow 2 if misty;haste 1 if gap < 9");
        Check.markedLaw(ring, "stop ^x");
        ring.hours(2);
        ring.image();
        ring.pace(1, 9);
        ring.lad(0);
        Check.put(ring, 1, 2, 3, 4, 5, 6, 7);
        return ring;
    }

    private static void refused(String exception, OfOne call, int n) {
        PromenadeRing ring = busy();
        String before = Picture.of(ring);
        Check.due("of " + n, exception, Check.outcome(() -> call.answer(ring, n)));
        Check.due("of " + n + " nothing is changed", before, Picture.of(ring));
        Check.due("of " + n + " the TAPE is left", 27, ring.feed(0, 0, 0, 0, 0));
        ring.back();
        Check.due("of " + n + " THE IMAGE is left", 3, ring.walker(1, 1));
    }

    private static void taken(OfOne call, int n) {
        PromenadeRing ring = busy();
        Check.nothingThrown("of " + n, () -> call.answer(ring, n));
    }

    private static void within(Bounded b, String exception) {
        Check.says(b.says);
        for (int n : new int[] {b.least, b.least + 1, b.most - 1, b.most}) {
            taken(b.call, n);
        }
        for (int n : new int[] {b.least - 1, b.most + 1, Integer.MIN_VALUE, Integer.MAX_VALUE}) {
            refused(exception, b.call, n);
        }
    }

    private static void thereAre(Named c, int many, int... none) {
        Check.says(c.says);
        taken(c.call, many - 1);
        for (int n : none) {
            refused("IndexOutOfBoundsException", c.call, n);
        }
    }

    private static List<Bounded> bounded() {
        List<Bounded> all = new ArrayList<>();
        all.add(new Bounded("IllegalArgumentException: they are none.", 1, 200, PromenadeRing::hours));
        all.add(new Bounded("One sets out: its number. IllegalArgumentException: PACE is none (0 to 99)", 0, 99, PromenadeRing::out));
        all.add(new Bounded("PACE is told: what it was. IllegalArgumentException: it is none.", 0, 99, (ring, n) -> ring.pace(2, n)));
        String where = "WHERE. IllegalArgumentException: N is none (0 to 200).";
        all.add(new Bounded(where, 0, 200, (ring, n) -> ring.where(2, n)));
        String circle = "CIRCLE, as bits. IllegalArgumentException: N is none.";
        all.add(new Bounded(circle, 0, 200, (ring, n) -> ring.circle(2, n)));
        String laps = "LAPS. IllegalArgumentException: N is none (0 to 200).";
        all.add(new Bounded(laps, 0, 200, (ring, n) -> ring.laps(2, n)));
        String stands = "(others than there are, and itself, count for nothing). IllegalArgumentException: N is none.";
        all.add(new Bounded(stands, 1, 6, (ring, n) -> ring.stands(2, 3, n)));
        String calls = "CALLS (0 to itself); NONE. IllegalArgumentException: E is none.";
        all.add(new Bounded(calls, 1, 200, (ring, n) -> ring.calls(2, 0, n)));
        all.add(new Bounded(calls, 1, 200, (ring, n) -> ring.calls(2, 2, n)));
        String told = "TOLD, as bits. IllegalArgumentException: E is none.";
        all.add(new Bounded(told, 1, 200, (ring, n) -> ring.told(2, n)));
        all.add(new Bounded("FEW, as bits; NONE. IllegalArgumentException: N is none.", 0, 199, PromenadeRing::few));
        String chase = "CHASE; NONE. IllegalArgumentException: G or T are none.";
        all.add(new Bounded(chase, 1, 40, (ring, n) -> ring.chase(n, 20)));
        all.add(new Bounded(chase, 0, 20, (ring, n) -> ring.chase(1, n)));
        String odds = "ODDS. IllegalArgumentException: N or K are none.";
        all.add(new Bounded(odds, 0, 5, (ring, n) -> ring.odds(n, 0)));
        all.add(new Bounded(odds, 0, 5, (ring, n) -> ring.odds(0, n)));
        all.add(new Bounded("BUNCH. IllegalArgumentException: E is none.", 0, 199, PromenadeRing::bunch));
        String trial = "TRIAL: HATS (misty false), or how many HOURS. IllegalArgumentException: N is none.";
        all.add(new Bounded(trial, 0, 200, (ring, n) -> ring.trial(n, false)));
        all.add(new Bounded(trial, 0, 200, (ring, n) -> ring.trial(n, true)));
        String span = "SPAN: the least (most false), or the greatest. IllegalArgumentException: N is none (0 to 200).";
        all.add(new Bounded(span, 0, 200, (ring, n) -> ring.span(n, false)));
        all.add(new Bounded(span, 0, 200, (ring, n) -> ring.span(n, true)));
        return all;
    }

    private static void numbers() {
        Check.says("IllegalArgumentException: a number is none, or two are one.");
        for (Bounded b : bounded()) {
            within(b, "IllegalArgumentException");
        }
    }

    private static List<Named> ofWalkers() {
        List<Named> all = new ArrayList<>();
        all.add(new Named("int walker(int walker, int what) throws IndexOutOfBoundsException", (ring, n) -> ring.walker(n, 0)));
        all.add(new Named("int pace(int walker, int n) throws IndexOutOfBoundsException", (ring, n) -> ring.pace(n, 5)));
        all.add(new Named("boolean shun(int walker, int other, boolean is) throws IndexOutOfBoundsException", (ring, n) -> ring.shun(n, 0, true)));
        all.add(new Named("boolean shun(int walker, int other, boolean is) throws IndexOutOfBoundsException", (ring, n) -> ring.shun(0, n, false)));
        all.add(new Named("boolean mourn(int walker, boolean is) throws IndexOutOfBoundsException", (ring, n) -> ring.mourn(n, true)));
        all.add(new Named("int lad(int walker) throws IndexOutOfBoundsException", PromenadeRing::lad));
        all.add(new Named("int where(int walker, int n) throws IndexOutOfBoundsException", (ring, n) -> ring.where(n, 1)));
        all.add(new Named("int up(int walker, int other) throws IndexOutOfBoundsException", (ring, n) -> ring.up(n, 0)));
        all.add(new Named("int up(int walker, int other) throws IndexOutOfBoundsException", (ring, n) -> ring.up(0, n)));
        all.add(new Named("int circle(int walker, int n) throws IndexOutOfBoundsException", (ring, n) -> ring.circle(n, 1)));
        all.add(new Named("int laps(int walker, int n) throws IndexOutOfBoundsException", (ring, n) -> ring.laps(n, 1)));
        all.add(new Named("int alone(int walker, int place) throws IndexOutOfBoundsException", (ring, n) -> ring.alone(n, 0)));
        all.add(new Named("int both(int walker, int other) throws IndexOutOfBoundsException", (ring, n) -> ring.both(n, 0)));
        all.add(new Named("int both(int walker, int other) throws IndexOutOfBoundsException", (ring, n) -> ring.both(0, n)));
        all.add(new Named("int period(int walker) throws IndexOutOfBoundsException", PromenadeRing::period));
        all.add(new Named("int stands(int walker, int set, int n) throws IndexOutOfBoundsException", (ring, n) -> ring.stands(n, 0, 1)));
        all.add(new Named("int calls(int walker, int other, int e) throws IndexOutOfBoundsException", (ring, n) -> ring.calls(n, 0, 1)));
        all.add(new Named("int calls(int walker, int other, int e) throws IndexOutOfBoundsException", (ring, n) -> ring.calls(0, n, 1)));
        all.add(new Named("int told(int walker, int e) throws IndexOutOfBoundsException", (ring, n) -> ring.told(n, 1)));
        all.add(new Named("int rests(int walker, int other) throws IndexOutOfBoundsException", (ring, n) -> ring.rests(n, 0)));
        all.add(new Named("int rests(int walker, int other) throws IndexOutOfBoundsException", (ring, n) -> ring.rests(0, n)));
        all.add(new Named("int led(int walker, boolean hour) throws IndexOutOfBoundsException", (ring, n) -> ring.led(n, false)));
        all.add(new Named("int led(int walker, boolean hour) throws IndexOutOfBoundsException", (ring, n) -> ring.led(n, true)));
        return all;
    }

    private static void walkers() {
        Check.says("IndexOutOfBoundsException: there is no such WALKER, SHELTER, PLACE.");
        for (Named c : ofWalkers()) {
            thereAre(c, WALKERS, -1, WALKERS, 7, 31, 32, Integer.MIN_VALUE, Integer.MAX_VALUE);
        }
        Named[] ofNone = {new Named("int seated(int walker) throws IndexOutOfBoundsException", PromenadeRing::seated),
            new Named("int couples(int walker) throws IndexOutOfBoundsException", PromenadeRing::couples)};
        for (Named c : ofNone) {
            thereAre(c, WALKERS, -2, WALKERS, Integer.MIN_VALUE, Integer.MAX_VALUE);
            taken(c.call, PromenadeRing.NONE);
        }
    }

    private static void shelters() {
        Check.says("IndexOutOfBoundsException: there is no such WALKER, SHELTER, PLACE.");
        String shelter = "int shelter(int shelter, int what) throws IndexOutOfBoundsException";
        String move = "int move(int shelter, int place) throws IndexOutOfBoundsException";
        Named[] calls = {new Named(shelter, (ring, n) -> ring.shelter(n, 0)), new Named(shelter, (ring, n) -> ring.shelter(n, 2)),
            new Named(move, (ring, n) -> ring.move(n, 0))};
        for (Named c : calls) {
            thereAre(c, SHELTERS, -1, SHELTERS, 4, Integer.MIN_VALUE, Integer.MAX_VALUE);
        }
    }

    private static void places() {
        Check.says("IndexOutOfBoundsException: there is no such WALKER, SHELTER, PLACE.");
        String gap = "int gap(int place, int other) throws IndexOutOfBoundsException";
        String move = "int move(int shelter, int place) throws IndexOutOfBoundsException";
        String alone = "int alone(int walker, int place) throws IndexOutOfBoundsException";
        Named[] calls = {new Named(gap, (ring, n) -> ring.gap(n, 0)), new Named(gap, (ring, n) -> ring.gap(0, n)),
            new Named(move, (ring, n) -> ring.move(0, n)), new Named(alone, (ring, n) -> ring.alone(0, n))};
        for (Named c : calls) {
            thereAre(c, LONG, -1, LONG, 100, Integer.MIN_VALUE, Integer.MAX_VALUE);
        }
    }

    private static void twoAreOne() {
        String shun = "One SHUNS another one, or does not: whether that changed. IllegalArgumentException: both are one.";
        Named[] calls = {new Named(shun, (ring, n) -> ring.shun(n, n, true)), new Named(shun, (ring, n) -> ring.shun(n, n, false)),
            new Named("UP; NONE. IllegalArgumentException: both are one.", (ring, n) -> ring.up(n, n)),
            new Named("BOTH; NONE. IllegalArgumentException: both are one.", (ring, n) -> ring.both(n, n)),
            new Named("RESTS, as bits. IllegalArgumentException: both are one.", (ring, n) -> ring.rests(n, n))};
        for (Named c : calls) {
            Check.says(c.says);
            for (int n = 0; n < WALKERS; n++) {
                refused("IllegalArgumentException", c.call, n);
            }
            refused("IndexOutOfBoundsException", c.call, WALKERS);
            refused("IndexOutOfBoundsException", c.call, -1);
        }
        Check.says("CALLS (0 to itself); NONE.");
        for (int n = 0; n < WALKERS; n++) {
            Check.due("to itself", 0, busy().calls(n, n, 1));
        }
    }

    private static void whats() {
        String log = "3 the PLACE; NONE without. NoSuchElementException: another what.";
        Bounded[] calls = {new Bounded("13 SHARE. NoSuchElementException: another what.", 0, 13, (ring, n) -> ring.walker(2, n)),
            new Bounded("2 BEST. NoSuchElementException: another what.", 0, 2, (ring, n) -> ring.shelter(1, n)),
            new Bounded(log, 0, 3, (ring, n) -> ring.log(0, n)), new Bounded(log, 0, 3, (ring, n) -> ring.log(99, n))};
        for (Bounded b : calls) {
            within(b, "NoSuchElementException");
        }
        Check.says("10 acts that can be UNDONE. NONE for another what.");
        for (int n : new int[] {-1, 11, Integer.MIN_VALUE, Integer.MAX_VALUE}) {
            Check.due("count(" + n + ")", -1, busy().count(n));
        }
    }

    private static void cannotBe() {
        Check.says("IllegalStateException: it cannot be.");
        PromenadeRing ring = Check.ring(Check.lines("walker at 9 pace 9", 6));
        Check.due("the seventh", 6, ring.out(99));
        String before = Picture.of(ring);
        Check.state("the eighth", () -> ring.out(99));
        Check.argument("of no PACE", () -> ring.out(100));
        Check.argument("of a PACE below 0", () -> ring.out(-1));
        Check.due("nothing changed", before, Picture.of(ring));
        ring.undo();
        Check.due("the seventh again", 6, ring.out(0));
    }

    private static void firstTold() {
        Check.says("Of several exceptions the one told first is thrown");
        OfOne[] calls = {(ring, n) -> ring.walker(n, 14), (ring, n) -> ring.pace(n, 100), (ring, n) -> ring.shun(n, n, true),
            (ring, n) -> ring.where(n, 201), (ring, n) -> ring.up(n, n), (ring, n) -> ring.circle(n, -1), (ring, n) -> ring.laps(n, 201),
            (ring, n) -> ring.alone(n, LONG), (ring, n) -> ring.both(n, n), (ring, n) -> ring.stands(n, 0, 7),
            (ring, n) -> ring.calls(n, 0, 0), (ring, n) -> ring.calls(0, n, 201), (ring, n) -> ring.told(n, 0),
            (ring, n) -> ring.rests(n, n), (ring, n) -> ring.shelter(n, 3), (ring, n) -> ring.move(n, LONG)};
        for (OfOne call : calls) {
            refused("IndexOutOfBoundsException", call, -1);
            refused("IndexOutOfBoundsException", call, WALKERS);
        }
        PromenadeRing seven = Check.ring(Check.lines("walker at 9 pace 9", 7));
        Check.argument("out of no PACE, of 7", () -> seven.out(100));
        PromenadeRing twelve = new PromenadeRing();
        for (int i = 0; i < 12; i++) {
            Check.promenade(twelve, "");
        }
        Check.markedPromenade(twelve, "misty ^x");
    }

    /** Calls that use the TAPE up, when it is not what they ask for. */
    private static void rows() {
        Check.says("a call that throws changes nothing but the TAPE, where it is used up");
        int[][] none = {{0}, {0, 1, 2}, {0, WALKERS}, {WALKERS, 0}, {1, 1}, {255, 0}, {0, 1, 0, 255}, new int[41], new int[42]};
        Named[] backs = {new Named("IllegalArgumentException: the TAPE is not that (none may be told).", PromenadeRing::backs),
            new Named("ASK (the TAPE as for BACKS); NONE. IllegalArgumentException: the TAPE is not that.", (ring, n) -> ring.ask())};
        refuseRows(backs, none);
        int[][] noLengths = {{0}, {10, 1, 20}, {10, 2}, {10, 255}, {10, 1, 20, 3}, new int[41], new int[42]};
        Named[] lengths = {
            new Named("or LEAST; NONE. IllegalArgumentException: the TAPE is not that (none may be told).", (ring, n) -> ring.round(n < 0)),
            new Named("TRY (the TAPE as for ROUND); NONE. IllegalArgumentException: the TAPE is not that.", (ring, n) -> ring.tries())};
        refuseRows(lengths, noLengths);
    }

    private static void refuseRows(Named[] calls, int[][] rows) {
        for (Named c : calls) {
            Check.says(c.says);
            for (int[] row : rows) {
                for (int k : new int[] {-1, 0}) {
                    PromenadeRing ring = busy();
                    String before = Picture.of(ring);
                    Check.put(ring, row);
                    Check.argument("of " + row.length + " bytes", () -> c.call.answer(ring, k));
                    Check.due("the TAPE is used up", false, ring.end(1));
                    Check.due("nothing else changed", before, Picture.of(ring));
                }
            }
        }
    }

    private static void texts() {
        Check.says("a call that throws changes nothing but the TAPE, where it is used up");
        PromenadeRing ring = busy();
        String before = Picture.of(ring);
        Check.markedPromenade(ring, "hour 1;mist 1;^");
        Check.due("the TAPE of a text", false, ring.end(1));
        Check.markedLaw(ring, "haste 50; ^x");
        Check.due("the TAPE of a law", false, ring.end(1));
        Check.due("all but fault()", before.replace("fault 5", "fault 10"), Picture.of(ring));
        PromenadeRing full = busy();
        for (int i = full.count(2); i < 12; i++) {
            Check.promenade(full, "");
        }
        full.pace(0, 5);
        String told = Picture.of(full);
        Check.unsupported("a thirteenth one", () -> Check.promenade(full, "hour 1;mist 1;walker at 0 pace 0"));
        Check.due("its TAPE", false, full.end(1));
        Check.due("nothing of it stays", told, Picture.of(full));
    }

    private static void answersChangeNothing() {
        Check.says("(draws, too; nothing stays)");
        PromenadeRing ring = busy();
        String before = Picture.of(ring);
        for (Bounded b : bounded().subList(ACTS, bounded().size())) {
            b.call.answer(ring, b.most);
        }
        ring.up(0, 1);
        ring.shelter(0, 2);
        ring.seated(0);
        ring.swaps();
        ring.couples(0);
        ring.ear();
        ring.farthest();
        Check.due("answers alone", before, Picture.of(ring));
        Check.due("the TAPE is there", 27, ring.feed(0, 0, 0, 0, 0));
    }
}
