/** Promises 26 to 32: backs, ask, round, tries, calls, told, ear. */
public final class AskingTest {
    public static void main(String[] args) {
        backs();
        wrongBacks();
        ask();
        round();
        wrongRounds();
        tries();
        calls();
        ear();
        Check.end("AskingTest");
    }

    private static int backs(PromenadeRing ring, int k, int... rows) {
        Check.put(ring, rows);
        return ring.backs(k);
    }

    private static int ask(PromenadeRing ring, int... rows) {
        Check.put(ring, rows);
        return ring.ask();
    }

    private static int round(PromenadeRing ring, boolean least, int... rows) {
        Check.put(ring, rows);
        return ring.round(least);
    }

    private static int tries(PromenadeRing ring, int... rows) {
        Check.put(ring, rows);
        return ring.tries();
    }

    private static PromenadeRing of(int walkers) {
        PromenadeRing ring = new PromenadeRing();
        for (int i = 0; i < walkers; i++) {
            ring.out(i);
        }
        return ring;
    }

    private static void backs() {
        Check.due("without WALKERS", 1, backs(of(0), -1));
        Check.due("the 0th without WALKERS", -1, backs(of(0), 0));
        int all = 1;
        for (int n = 1; n <= 7; n++) {
            all *= n;
            Check.due("all orders of " + n, all, backs(of(n), -1));
        }
        PromenadeRing three = of(3);
        Check.due("2 saw the back of 0", 3, backs(three, -1, 2, 0));
        int[] first = {1, 2, 0};
        for (int k = 0; k < 3; k++) {
            Check.due("the first one's " + k, first[k], backs(three, k, 2, 0));
            Check.due("without rows " + k, k, backs(three, k));
        }
        Check.due("the 3rd of three", -1, backs(three, 3, 2, 0));
        Check.due("k of -2", -1, backs(three, -2, 2, 0));
        Check.due("k at its most", -1, backs(three, Integer.MAX_VALUE, 2, 0));
        Check.due("k at its least", -1, backs(three, Integer.MIN_VALUE, 2, 0));
        Check.due("in a line", 1, backs(three, -1, 2, 1, 1, 0));
        Check.due("its first", 2, backs(three, 0, 2, 1, 1, 0));
        Check.due("one twice", 3, backs(three, -1, 2, 0, 2, 0));
        Check.due("round", 0, backs(three, -1, 0, 1, 1, 2, 2, 0));
        Check.due("round has no first", -1, backs(three, 0, 0, 1, 1, 2, 2, 0));
        Check.due("a ring with a free one ahead", -1, backs(of(4), 0, 1, 2, 2, 1));
        Check.due("of 7, one ahead of all", 720, backs(of(7), -1, 0, 6, 1, 6, 2, 6, 3, 6, 4, 6, 5, 6));
        int[] many = new int[40];
        for (int i = 0; i < 40; i += 2) {
            many[i] = 1;
        }
        Check.due("40 bytes", 3, backs(three, -1, many));
    }

    private static void wrongBacks() {
        PromenadeRing ring = of(3);
        int[][] rows = {{0}, {0, 1, 2}, {0, 3}, {3, 0}, {1, 1}, {0, 255}, {0, 1, 2, 2}, new int[42]};
        for (int[] row : rows) {
            Check.argument("backs of " + row.length, () -> backs(ring, -1, row));
            Check.due("used up", false, ring.end(1));
            Check.argument("ask of " + row.length, () -> ask(ring, row));
            Check.due("used up by ask", false, ring.end(1));
        }
        Check.argument("a row without WALKERS", () -> backs(of(0), -1, 0, 1));
        backs(ring, -1, 0, 1);
        Check.due("used up, when right", false, ring.end(1));
    }

    private static void ask() {
        Check.due("nobody", -1, ask(of(0)));
        Check.due("one", -1, ask(of(1)));
        Check.due("two", 1, ask(of(2)));
        Check.due("two, known", -1, ask(of(2), 1, 0));
        Check.due("three", 1, ask(of(3)));
        // 012, 021, 201 are left: 0 and 2 part them 2 to 1, so do 1 and 2; 0 and 1 do not.
        Check.due("three, 0 behind 1", 2, ask(of(3), 0, 1));
        // 102, 120, 012 by 1 behind 2.
        Check.due("three, 1 behind 2", 1, ask(of(3), 1, 2));
        Check.due("none fits", -1, ask(of(3), 0, 1, 1, 0));
        // 0 and 1 behind 2 and 3, these two pairs unknown: 2 by 2 orders.
        Check.due("pairs", 1, ask(of(4), 0, 2, 0, 3, 1, 2, 1, 3));
        Check.due("the other pair", 19, ask(of(4), 0, 2, 0, 3, 1, 2, 1, 3, 0, 1));
        Check.due("seven", 1, ask(of(7)));
        Check.due("seven but for one pair", 46, ask(of(7), 0, 1, 1, 2, 2, 3, 3, 4, 4, 5, 4, 6));
    }

    private static void round() {
        PromenadeRing ring = new PromenadeRing();
        Check.due("all lengths", 191, round(ring, false));
        Check.due("the least", 10, round(ring, true));
        // 60 is of 10, 12, 15, 20, 30, 60 yards.
        Check.due("60 again", 6, round(ring, false, 60, 1));
        Check.due("60 again, not 30", 3, round(ring, false, 60, 1, 30, 0));
        Check.due("60 again, not 30: the least", 12, round(ring, true, 60, 1, 30, 0));
        Check.due("not 60", 185, round(ring, false, 60, 0));
        Check.due("not 60: the least", 11, round(ring, true, 60, 0));
        Check.due("0 again", 191, round(ring, false, 0, 1));
        Check.due("0 not again", 0, round(ring, false, 0, 0));
        Check.due("0 not again: the least", -1, round(ring, true, 0, 0));
        Check.due("9 again", 0, round(ring, false, 9, 1));
        Check.due("251 again", 0, round(ring, false, 251, 1));
        Check.due("255 again", 4, round(ring, false, 255, 1));
        Check.due("200 again: the most", 200, round(ring, true, 200, 1, 100, 0, 40, 0));
        Check.due("40 bytes", 6, round(ring, false, twenty(60, 1)));
    }

    private static int[] twenty(int yards, int again) {
        int[] rows = new int[40];
        for (int i = 0; i < 40; i += 2) {
            rows[i] = yards;
            rows[i + 1] = again;
        }
        return rows;
    }

    private static void wrongRounds() {
        PromenadeRing ring = new PromenadeRing();
        int[][] rows = {{60}, {60, 1, 5}, {60, 2}, {60, 255}, {60, 1, 30, 3}, new int[42]};
        for (int[] row : rows) {
            Check.argument("round of " + row.length, () -> round(ring, true, row));
            Check.due("used up", false, ring.end(1));
            Check.argument("tries of " + row.length, () -> tries(ring, row));
            Check.due("used up by tries", false, ring.end(1));
        }
        tries(ring, 60, 1);
        Check.due("used up, when right", false, ring.end(1));
    }

    private static void tries() {
        PromenadeRing ring = new PromenadeRing();
        // 240 is of 10, 12, 15, 16, 20, 24, 30, 40, 48, 60, 80, 120: no other number up to 255 is of more of 10 to 200.
        Check.due("of all", 240, tries(ring));
        // 12, 20, 60: 12 parts one from two.
        Check.due("of three", 12, tries(ring, 60, 1, 30, 0));
        // 10, 12, 15, 20, 30, 60: three of them are of 30.
        Check.due("of six", 30, tries(ring, 60, 1));
        Check.due("of none", -1, tries(ring, 0, 0));
        Check.due("of one", -1, tries(ring, 200, 1, 100, 0, 40, 0));
    }

    private static void calls() {
        PromenadeRing ring = Check.ring(FiguresTest.FOUR);
        Check.due("to the next", 1, ring.calls(0, 1, 10));
        Check.due("not so far", -1, ring.calls(0, 1, 9));
        Check.due("over one", 2, ring.calls(0, 2, 15));
        Check.due("at once", 1, ring.calls(0, 2, 25));
        Check.due("not behind", -1, ring.calls(1, 0, 25 - 1));
        Check.due("round", 3, ring.calls(1, 0, 25));
        Check.due("over 0", 1, ring.calls(3, 0, 10));
        Check.due("to itself", 0, ring.calls(2, 2, 1));
        Check.due("by 200", 1, ring.calls(1, 0, 200));
        Check.argument("E of 0", () -> ring.calls(0, 0, 0));
        Check.argument("E of 201", () -> ring.calls(0, 1, 201));
        Check.index("calls(4, 0, 0)", () -> ring.calls(4, 0, 0));
        Check.index("calls(0, 4, 1)", () -> ring.calls(0, 4, 1));
        Check.index("calls(0, -1, 1)", () -> ring.calls(0, -1, 1));
        PromenadeRing same = Check.ring("walker at 5 pace 1;walker at 5 pace 2");
        Check.due("GAP 0, too", 1, same.calls(1, 0, 1));
        Check.due("told at one PLACE", 3, same.told(1, 1));
        Check.due("told of 15", 7, ring.told(0, 15));
        Check.due("told of 9", 1, ring.told(0, 9));
        Check.due("told over 0", 15, ring.told(3, 15));
        Check.due("told of 25", 15, ring.told(0, 25));
        Check.argument("told of 0", () -> ring.told(0, 0));
        Check.argument("told of 201", () -> ring.told(0, 201));
        Check.index("told(4, 0)", () -> ring.told(4, 0));
        Check.index("told(-1, 1)", () -> ring.told(-1, 1));
        PromenadeRing line = Check.ring("long 70;walker at 0 pace 0;walker at 60 pace 0;walker at 50 pace 0;walker at 40 pace 0;"
            + "walker at 30 pace 0;walker at 20 pace 0;walker at 10 pace 0");
        Check.due("six calls", 6, line.calls(0, 1, 10));
        Check.due("all told", 127, line.told(0, 10));
    }

    private static void ear() {
        Check.due("nobody", -1, new PromenadeRing().ear());
        Check.due("one", 1, of(1).ear());
        Check.due("at one PLACE", 1, of(5).ear());
        Check.due("four", 25, Check.ring(FiguresTest.FOUR).ear());
        Check.due("two", 199, Check.ring("long 200;walker at 0 pace 1;walker at 1 pace 1").ear());
        Check.due("two and one with one", 199, Check.ring("long 200;walker at 1 pace 1;walker at 0 pace 1;walker at 1 pace 1").ear());
        Check.due("half and half", 5, Check.ring("long 10;walker at 7 pace 1;walker at 2 pace 1").ear());
    }
}
