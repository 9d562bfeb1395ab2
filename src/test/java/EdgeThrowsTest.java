import java.util.ArrayList;
import java.util.List;

/**
 * Each call that is refused: with the number just outside it throws what the document names, with the one just inside
 * it does not, and of a call that throws nothing stays.
 */
public final class EdgeThrowsTest {
    interface OfOne {
        Object answer(PromenadeRing ring, int n);
    }

    record Bounded(String name, int least, int most, OfOne call) {
    }

    record Named(String name, OfOne call) {
    }

    private static final String RING = "long 50;walker at 5 pace 30;walker at 20 pace 3 black;walker at 20 pace 0;shuns 1 2;"
        + "shelter at 7 seats 1;shelter at 9 seats 2;band 3;mist 50;hour 4";
    private static final int WALKERS = 3;
    private static final int SHELTERS = 2;
    private static final int LONG = 50;

    public static void main(String[] args) {
        numbers();
        walkers();
        shelters();
        places();
        twoAreOne();
        whats();
        cannotBe();
        firstTold();
        rows();
        texts();
        answersChangeNothing();
        Check.end("EdgeThrowsTest");
    }

    /** With three ACTS, an image, rows in THE LOG, a law, a fault and seven bytes of TAPE. */
    private static PromenadeRing busy() {
        PromenadeRing ring = Check.ring(RING);
        Check.law(ring, "slow 2 if misty;haste 1 if gap < 9");
        Check.markedLaw(ring, "stop ^x");
        ring.hours(2);
        ring.image();
        ring.pace(1, 9);
        ring.lad(0);
        Check.put(ring, 1, 2, 3, 4, 5, 6, 7);
        return ring;
    }

    private static void refused(String name, String exception, OfOne call, int n) {
        PromenadeRing ring = busy();
        String before = Picture.of(ring);
        Check.due(name + " of " + n, exception, Check.outcome(() -> call.answer(ring, n)));
        Check.due(name + " of " + n + " changes nothing", before, Picture.of(ring));
        Check.due(name + " of " + n + " leaves the TAPE", 27, ring.feed(0, 0, 0, 0, 0));
        ring.back();
        Check.due(name + " of " + n + " leaves THE IMAGE", 3, ring.walker(1, 1));
    }

    private static void taken(String name, OfOne call, int n) {
        PromenadeRing ring = busy();
        Check.nothingThrown(name + " of " + n, () -> call.answer(ring, n));
    }

    private static List<Bounded> bounded() {
        List<Bounded> all = new ArrayList<>();
        all.add(new Bounded("hours", 1, 200, PromenadeRing::hours));
        all.add(new Bounded("out", 0, 99, PromenadeRing::out));
        all.add(new Bounded("pace", 0, 99, (ring, n) -> ring.pace(2, n)));
        all.add(new Bounded("where", 0, 200, (ring, n) -> ring.where(2, n)));
        all.add(new Bounded("circle", 0, 200, (ring, n) -> ring.circle(2, n)));
        all.add(new Bounded("laps", 0, 200, (ring, n) -> ring.laps(2, n)));
        all.add(new Bounded("stands", 1, 6, (ring, n) -> ring.stands(2, 3, n)));
        all.add(new Bounded("calls", 1, 200, (ring, n) -> ring.calls(2, 0, n)));
        all.add(new Bounded("calls to itself", 1, 200, (ring, n) -> ring.calls(2, 2, n)));
        all.add(new Bounded("told", 1, 200, (ring, n) -> ring.told(2, n)));
        all.add(new Bounded("few", 0, 199, PromenadeRing::few));
        all.add(new Bounded("chase G", 1, 40, (ring, n) -> ring.chase(n, 20)));
        all.add(new Bounded("chase T", 0, 20, (ring, n) -> ring.chase(1, n)));
        all.add(new Bounded("odds N", 0, 5, (ring, n) -> ring.odds(n, 0)));
        all.add(new Bounded("odds K", 0, 5, (ring, n) -> ring.odds(0, n)));
        all.add(new Bounded("bunch", 0, 199, PromenadeRing::bunch));
        all.add(new Bounded("trial, HATS", 0, 200, (ring, n) -> ring.trial(n, false)));
        all.add(new Bounded("trial, MISTY", 0, 200, (ring, n) -> ring.trial(n, true)));
        all.add(new Bounded("span, the least", 0, 200, (ring, n) -> ring.span(n, false)));
        all.add(new Bounded("span, the greatest", 0, 200, (ring, n) -> ring.span(n, true)));
        return all;
    }

    private static void numbers() {
        Check.says("IllegalArgumentException: a number is none, or two are one.");
        for (Bounded b : bounded()) {
            for (int n : new int[] {b.least, b.least + 1, b.most - 1, b.most}) {
                taken(b.name, b.call, n);
            }
            for (int n : new int[] {b.least - 1, b.most + 1, Integer.MIN_VALUE, Integer.MAX_VALUE}) {
                refused(b.name, "IllegalArgumentException", b.call, n);
            }
        }
    }

    private static List<Named> ofWalkers() {
        List<Named> all = new ArrayList<>();
        all.add(new Named("walker", (ring, n) -> ring.walker(n, 0)));
        all.add(new Named("pace", (ring, n) -> ring.pace(n, 5)));
        all.add(new Named("shun by", (ring, n) -> ring.shun(n, 0, true)));
        all.add(new Named("shun", (ring, n) -> ring.shun(0, n, false)));
        all.add(new Named("mourn", (ring, n) -> ring.mourn(n, true)));
        all.add(new Named("lad", PromenadeRing::lad));
        all.add(new Named("where", (ring, n) -> ring.where(n, 1)));
        all.add(new Named("up", (ring, n) -> ring.up(n, 0)));
        all.add(new Named("up with", (ring, n) -> ring.up(0, n)));
        all.add(new Named("circle", (ring, n) -> ring.circle(n, 1)));
        all.add(new Named("laps", (ring, n) -> ring.laps(n, 1)));
        all.add(new Named("alone", (ring, n) -> ring.alone(n, 0)));
        all.add(new Named("both", (ring, n) -> ring.both(n, 0)));
        all.add(new Named("both with", (ring, n) -> ring.both(0, n)));
        all.add(new Named("period", PromenadeRing::period));
        all.add(new Named("stands", (ring, n) -> ring.stands(n, 0, 1)));
        all.add(new Named("calls from", (ring, n) -> ring.calls(n, 0, 1)));
        all.add(new Named("calls to", (ring, n) -> ring.calls(0, n, 1)));
        all.add(new Named("told", (ring, n) -> ring.told(n, 1)));
        all.add(new Named("rests", (ring, n) -> ring.rests(n, 0)));
        all.add(new Named("rests with", (ring, n) -> ring.rests(0, n)));
        all.add(new Named("led", (ring, n) -> ring.led(n, false)));
        all.add(new Named("led, the HOUR", (ring, n) -> ring.led(n, true)));
        return all;
    }

    private static void walkers() {
        Check.says("IndexOutOfBoundsException: there is no such WALKER, SHELTER, PLACE.");
        for (Named c : ofWalkers()) {
            taken(c.name, c.call, WALKERS - 1);
            for (int n : new int[] {-1, WALKERS, 7, 31, 32, Integer.MIN_VALUE, Integer.MAX_VALUE}) {
                refused(c.name, "IndexOutOfBoundsException", c.call, n);
            }
        }
        Named[] ofNone = {new Named("seated", PromenadeRing::seated), new Named("couples", PromenadeRing::couples)};
        for (Named c : ofNone) {
            taken(c.name, c.call, PromenadeRing.NONE);
            taken(c.name, c.call, WALKERS - 1);
            for (int n : new int[] {-2, WALKERS, Integer.MIN_VALUE, Integer.MAX_VALUE}) {
                refused(c.name, "IndexOutOfBoundsException", c.call, n);
            }
        }
    }

    private static void shelters() {
        Check.says("IndexOutOfBoundsException: there is no such WALKER, SHELTER, PLACE.");
        Named[] calls = {new Named("shelter", (ring, n) -> ring.shelter(n, 0)), new Named("BEST", (ring, n) -> ring.shelter(n, 2)),
            new Named("move", (ring, n) -> ring.move(n, 0))};
        for (Named c : calls) {
            taken(c.name, c.call, SHELTERS - 1);
            for (int n : new int[] {-1, SHELTERS, 4, Integer.MIN_VALUE, Integer.MAX_VALUE}) {
                refused(c.name, "IndexOutOfBoundsException", c.call, n);
            }
        }
    }

    private static void places() {
        Check.says("IndexOutOfBoundsException: there is no such WALKER, SHELTER, PLACE.");
        Named[] calls = {new Named("gap from", (ring, n) -> ring.gap(n, 0)), new Named("gap to", (ring, n) -> ring.gap(0, n)),
            new Named("move to", (ring, n) -> ring.move(0, n)), new Named("alone at", (ring, n) -> ring.alone(0, n))};
        for (Named c : calls) {
            taken(c.name, c.call, 0);
            taken(c.name, c.call, LONG - 1);
            for (int n : new int[] {-1, LONG, 100, Integer.MIN_VALUE, Integer.MAX_VALUE}) {
                refused(c.name, "IndexOutOfBoundsException", c.call, n);
            }
        }
    }

    private static void twoAreOne() {
        Check.says("IllegalArgumentException: both are one.");
        Named[] calls = {new Named("shun", (ring, n) -> ring.shun(n, n, true)), new Named("shun no more", (ring, n) -> ring.shun(n, n, false)),
            new Named("up", (ring, n) -> ring.up(n, n)), new Named("both", (ring, n) -> ring.both(n, n)),
            new Named("rests", (ring, n) -> ring.rests(n, n))};
        for (Named c : calls) {
            for (int n = 0; n < WALKERS; n++) {
                refused(c.name, "IllegalArgumentException", c.call, n);
            }
            refused(c.name, "IndexOutOfBoundsException", c.call, WALKERS);
            refused(c.name, "IndexOutOfBoundsException", c.call, -1);
        }
        Check.says("CALLS (0 to itself); NONE.");
        for (int n = 0; n < WALKERS; n++) {
            Check.due("to itself", 0, busy().calls(n, n, 1));
        }
    }

    private static void whats() {
        Check.says("NoSuchElementException: another what.");
        Bounded[] calls = {new Bounded("walker", 0, 13, (ring, n) -> ring.walker(2, n)),
            new Bounded("shelter", 0, 2, (ring, n) -> ring.shelter(1, n)), new Bounded("log", 0, 3, (ring, n) -> ring.log(0, n)),
            new Bounded("log without a row", 0, 3, (ring, n) -> ring.log(99, n))};
        for (Bounded b : calls) {
            for (int n = b.least; n <= b.most; n++) {
                taken(b.name, b.call, n);
            }
            for (int n : new int[] {b.least - 1, b.most + 1, Integer.MIN_VALUE, Integer.MAX_VALUE}) {
                refused(b.name, "NoSuchElementException", b.call, n);
            }
        }
        Check.says("NONE for another what.");
        for (int n : new int[] {-1, 11, Integer.MIN_VALUE, Integer.MAX_VALUE}) {
            Check.due("count(" + n + ")", -1, busy().count(n));
        }
    }

    private static void cannotBe() {
        Check.says("IllegalStateException: it cannot be.");
        PromenadeRing ring = Check.ring(Check.lines("walker at 9 pace 9", 6));
        Check.due("the seventh", 6, ring.out(99));
        String before = Picture.of(ring);
        Check.state("the eighth", () -> ring.out(99));
        Check.argument("of no PACE", () -> ring.out(100));
        Check.argument("of a PACE below 0", () -> ring.out(-1));
        Check.due("nothing changed", before, Picture.of(ring));
        ring.undo();
        Check.due("the seventh again", 6, ring.out(0));
    }

    private static void firstTold() {
        Check.says("Of several exceptions the one told first is thrown");
        for (int no : new int[] {-1, WALKERS}) {
            String index = "IndexOutOfBoundsException";
            refused("walker, another what", index, (ring, n) -> ring.walker(n, 14), no);
            refused("pace", index, (ring, n) -> ring.pace(n, 100), no);
            refused("shun, the other one is none", index, (ring, n) -> ring.shun(0, n, true), no);
            refused("where", index, (ring, n) -> ring.where(n, 201), no);
            refused("circle", index, (ring, n) -> ring.circle(n, -1), no);
            refused("laps", index, (ring, n) -> ring.laps(n, 201), no);
            refused("alone, no PLACE", index, (ring, n) -> ring.alone(n, 50), no);
            refused("stands", index, (ring, n) -> ring.stands(n, 0, 7), no);
            refused("calls from", index, (ring, n) -> ring.calls(n, 0, 0), no);
            refused("calls to", index, (ring, n) -> ring.calls(0, n, 201), no);
            refused("told", index, (ring, n) -> ring.told(n, 0), no);
            refused("shelter, another what", index, (ring, n) -> ring.shelter(n, 3), no);
            refused("move", index, (ring, n) -> ring.move(n, 50), no);
        }
    }

    /** Calls that use the TAPE up, when it is not what they ask for. */
    private static void rows() {
        Check.says("a call that throws changes nothing but the TAPE, where it is used up");
        int[][] none = {{0}, {0, 1, 2}, {0, WALKERS}, {WALKERS, 0}, {1, 1}, {255, 0}, {0, 1, 0, 255}, new int[41], new int[42]};
        Named[] backs = {new Named("backs", PromenadeRing::backs), new Named("ask", (ring, n) -> ring.ask())};
        refuseRows(backs, none);
        int[][] noLengths = {{0}, {10, 1, 20}, {10, 2}, {10, 255}, {10, 1, 20, 3}, new int[41], new int[42]};
        Named[] lengths = {new Named("round", (ring, n) -> ring.round(n < 0)), new Named("tries", (ring, n) -> ring.tries())};
        refuseRows(lengths, noLengths);
    }

    private static void refuseRows(Named[] calls, int[][] rows) {
        for (Named c : calls) {
            for (int[] row : rows) {
                for (int k : new int[] {-1, 0}) {
                    PromenadeRing ring = busy();
                    String before = Picture.of(ring);
                    Check.put(ring, row);
                    Check.argument(c.name + " of " + row.length + " bytes", () -> c.call.answer(ring, k));
                    Check.due("the TAPE is used up", false, ring.end(1));
                    Check.due("nothing else changed", before, Picture.of(ring));
                }
            }
        }
    }

    private static void texts() {
        Check.says("a call that throws changes nothing but the TAPE, where it is used up");
        PromenadeRing ring = busy();
        String before = Picture.of(ring);
        Check.markedPromenade(ring, "hour 1;mist 1;^");
        Check.due("the TAPE of a text", false, ring.end(1));
        Check.markedLaw(ring, "haste 50; ^x");
        Check.due("the TAPE of a law", false, ring.end(1));
        Check.due("all but fault()", before.replace("fault 5", "fault 10"), Picture.of(ring));
        PromenadeRing full = busy();
        for (int i = full.count(2); i < 12; i++) {
            Check.promenade(full, "");
        }
        full.pace(0, 5);
        String told = Picture.of(full);
        Check.unsupported("a thirteenth one", () -> Check.promenade(full, "hour 1;mist 1;walker at 0 pace 0"));
        Check.due("its TAPE", false, full.end(1));
        Check.due("nothing of it stays", told, Picture.of(full));
    }

    private static void answersChangeNothing() {
        Check.says("(draws, too; nothing stays)");
        PromenadeRing ring = busy();
        String before = Picture.of(ring);
        for (Bounded b : bounded()) {
            boolean act = b.name.equals("hours") || b.name.equals("out") || b.name.equals("pace");
            if (!act) {
                b.call.answer(ring, b.most);
            }
        }
        ring.up(0, 1);
        ring.shelter(0, 2);
        ring.seated(0);
        ring.swaps();
        ring.couples(0);
        ring.ear();
        ring.farthest();
        Check.due("answers alone", before, Picture.of(ring));
        Check.due("the TAPE is there", 27, ring.feed(0, 0, 0, 0, 0));
    }
}
