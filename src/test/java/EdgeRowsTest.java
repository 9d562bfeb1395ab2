/** The edges of what is told in rows: BACKS, FIRST, ASK, ROUND, LEAST, TRY. */
public final class EdgeRowsTest {
    public static void main(String[] args) {
        howManyOrders();
        firstOrder();
        fortyBytesOfBacks();
        walkersThatThereAre();
        pairs();
        noPairs();
        lengths();
        lengthsAtTheEdges();
        fortyBytesOfLengths();
        oneOrNought();
        yardsToTry();
        noTries();
        Check.end("EdgeRowsTest");
    }

    private static PromenadeRing of(int walkers) {
        return walkers == 0 ? new PromenadeRing() : Check.ring(Check.lines("walker at 0 pace 0", walkers));
    }

    private static int backs(PromenadeRing ring, int k, int... rows) {
        Check.put(ring, rows);
        return ring.backs(k);
    }

    private static int ask(PromenadeRing ring, int... rows) {
        Check.put(ring, rows);
        return ring.ask();
    }

    private static int round(boolean least, int... rows) {
        PromenadeRing ring = new PromenadeRing();
        Check.put(ring, rows);
        return ring.round(least);
    }

    private static int tries(int... rows) {
        PromenadeRing ring = new PromenadeRing();
        Check.put(ring, rows);
        return ring.tries();
    }

    /** So many times one row. */
    private static int[] times(int n, int first, int second) {
        int[] rows = new int[2 * n];
        for (int i = 0; i < rows.length; i += 2) {
            rows[i] = first;
            rows[i + 1] = second;
        }
        return rows;
    }

    private static void howManyOrders() {
        Check.says("orders of all WALKERS in a line that fit: how many (1 without WALKERS)");
        Check.due("without WALKERS", 1, backs(of(0), -1));
        Check.due("of one", 1, backs(of(1), -1));
        Check.due("of two", 2, backs(of(2), -1));
        Check.due("of two by one row", 1, backs(of(2), -1, 1, 0));
        Check.due("of two who saw each other", 0, backs(of(2), -1, 1, 0, 0, 1));
        Check.due("of seven", 5040, backs(of(7), -1));
        Check.due("of seven by one row", 2520, backs(of(7), -1, 6, 0));
        Check.due("of seven in a line", 1, backs(of(7), -1, 6, 5, 5, 4, 4, 3, 3, 2, 2, 1, 1, 0));
        Check.due("of seven round", 0, backs(of(7), -1, 6, 5, 5, 4, 4, 3, 3, 2, 2, 1, 1, 0, 0, 6));
    }

    private static void firstOrder() {
        Check.says("FIRST: the first such order (by the first unlike one, the lesser, the hindmost first): its k-th; none");
        PromenadeRing seven = of(7);
        int[] rows = {6, 0, 5, 1};
        int[] due = {2, 3, 4, 5, 1, 6, 0};
        for (int k = 0; k < 7; k++) {
            Check.due("of seven without rows: " + k, k, backs(seven, k));
            Check.due("of seven by two rows: " + k, due[k], backs(seven, k, rows));
        }
        Check.says("how many (k NONE), or the k-th of FIRST; NONE.");
        for (int k : new int[] {-2, 7, 8, 31, 32, Integer.MAX_VALUE, Integer.MIN_VALUE}) {
            Check.due("no " + k, -1, backs(seven, k, rows));
        }
        Check.due("the last of a line", 0, backs(of(7), 6, 6, 5, 5, 4, 4, 3, 3, 2, 2, 1, 1, 0));
        for (int k = 0; k < 3; k++) {
            Check.due("none fits: " + k, -1, backs(of(3), k, 1, 2, 2, 1));
        }
        Check.due("without WALKERS", -1, backs(of(0), 0));
        Check.due("of one", 0, backs(of(1), 0));
        Check.due("of one no second", -1, backs(of(1), 1));
    }

    private static void fortyBytesOfBacks() {
        Check.says("Uses the TAPE up: BACKS (of each two bytes: two WALKERS that there are, not one; at most 40 bytes)");
        PromenadeRing ring = of(3);
        Check.due("none", 6, backs(ring, -1));
        Check.due("40 bytes", 3, backs(ring, -1, times(20, 2, 0)));
        Check.argument("42 bytes", () -> backs(ring, -1, times(21, 2, 0)));
        Check.argument("42 bytes to ask", () -> ask(ring, times(21, 2, 0)));
        Check.argument("400 bytes", () -> backs(ring, -1, times(200, 2, 0)));
        Check.due("40 bytes to ask", 1, ask(ring, times(20, 2, 0)));
        int[] odd = java.util.Arrays.copyOf(times(20, 2, 0), 39);
        Check.argument("39 bytes", () -> backs(ring, -1, odd));
        Check.argument("39 bytes to ask", () -> ask(ring, odd));
        Check.argument("1 byte", () -> backs(ring, -1, 0));
        Check.argument("3 bytes", () -> backs(ring, 0, 0, 1, 2));
        int[] last = times(20, 2, 0);
        last[39] = 2;
        Check.argument("the last row is wrong", () -> backs(ring, -1, last));
        Check.says("IllegalArgumentException: the TAPE is not that (none may be told).");
        Check.due("none may be told", 6, backs(ring, -1));
        Check.due("none to ask", 1, ask(ring));
    }

    private static void walkersThatThereAre() {
        Check.says("two WALKERS that there are, not one");
        PromenadeRing ring = of(3);
        Check.due("the last one", 3, backs(ring, -1, 0, 2));
        for (int none : new int[] {3, 7, 127, 128, 255}) {
            Check.argument("no " + none, () -> backs(ring, -1, 0, none));
            Check.argument("no " + none + " ahead", () -> backs(ring, -1, none, 0));
            Check.argument("no " + none + " to ask", () -> ask(ring, none, 0));
        }
        for (int one = 0; one < 3; one++) {
            int own = one;
            Check.argument("its own back", () -> backs(ring, -1, own, own));
            Check.argument("its own back to ask", () -> ask(ring, own, own));
        }
        Check.argument("of nobody", () -> backs(of(0), -1, 0, 1));
        Check.argument("of one", () -> backs(of(1), -1, 0, 1));
        ring.out(5);
        Check.due("one more set out", 12, backs(ring, -1, 0, 3));
        ring.undo();
        Check.argument("it is gone", () -> backs(ring, -1, 0, 3));
    }

    private static void pairs() {
        Check.says("ASK: of all pairs (8 times the lesser and the other one) the one by whose order those that fit are parted "
            + "so that the greater part is the least (of several the least; none with fewer than two)");
        Check.due("of two", 1, ask(of(2)));
        Check.due("of seven, the least", 1, ask(of(7)));
        Check.due("of seven the last pair alone", 46, ask(of(7), 0, 1, 1, 2, 2, 3, 3, 4, 4, 5, 4, 6));
        Check.due("of seven the first pair alone", 1, ask(of(7), 0, 2, 1, 2, 2, 3, 3, 4, 4, 5, 5, 6));
        Check.due("not a pair that is known", 2, ask(of(3), 0, 1));
        Check.due("nor when told the other way", 2, ask(of(3), 1, 0));
        // 0 behind 1 behind 2, 3 anywhere: 3 is behind, between or ahead; 1 and 3 part these 2 to 2.
        Check.due("in the middle", 8 * 1 + 3, ask(of(4), 0, 1, 1, 2));
    }

    private static void noPairs() {
        Check.says("(of several the least; none with fewer than two)");
        Check.due("nobody", -1, ask(of(0)));
        Check.due("one", -1, ask(of(1)));
        Check.due("one order", -1, ask(of(2), 0, 1));
        Check.due("no order", -1, ask(of(2), 0, 1, 1, 0));
        Check.due("one order of seven", -1, ask(of(7), 0, 1, 1, 2, 2, 3, 3, 4, 4, 5, 5, 6));
        Check.due("two orders of seven", 46, ask(of(7), 0, 1, 1, 2, 2, 3, 3, 4, 4, 5, 4, 6));
    }

    private static void lengths() {
        Check.says("whether it was the same PLACE again behind these (1) or not (0): lengths 10 to 200 that fit: how many; LEAST: the least; none");
        Check.due("none told", 191, round(false));
        Check.due("none told, the least", 10, round(true));
        Check.due("0 yards again", 191, round(false, 0, 1));
        Check.due("0 yards, the least", 10, round(true, 0, 1));
        Check.due("0 yards not again", 0, round(false, 0, 0));
        Check.due("0 yards not again, no least", -1, round(true, 0, 0));
        Check.says("how many lengths (least false), or LEAST; NONE.");
        Check.due("again and not", 0, round(false, 60, 1, 60, 0));
        Check.due("again and not, no least", -1, round(true, 60, 1, 60, 0));
    }

    private static void lengthsAtTheEdges() {
        Check.says("lengths 10 to 200 that fit");
        Check.due("9 again", 0, round(false, 9, 1));
        Check.due("10 again", 1, round(false, 10, 1));
        Check.due("10 again, the least", 10, round(true, 10, 1));
        Check.due("10 not again", 190, round(false, 10, 0));
        Check.due("10 not again, the least", 11, round(true, 10, 0));
        Check.due("9 not again", 191, round(false, 9, 0));
        // 199 is no other number's multiple; 200 is of 10, 20, 25, 40, 50, 100, 200.
        Check.due("199 again", 199, round(true, 199, 1));
        Check.due("199 again alone", 1, round(false, 199, 1));
        Check.due("200 again", 7, round(false, 200, 1));
        Check.due("200 but not 100 nor 40", 200, round(true, 200, 1, 100, 0, 40, 0));
        Check.due("200 not again", 184, round(false, 200, 0));
        // 201 is 3 times 67, 202 is 2 times 101, 211 is of itself alone: longer than 200.
        Check.due("201 again", 67, round(true, 201, 1));
        Check.due("202 again", 101, round(true, 202, 1));
        Check.due("211 again", 0, round(false, 211, 1));
        Check.due("211 not again", 191, round(false, 211, 0));
        Check.says("so many yards (0 to 255)");
        // 255 is of 15, 17, 51, 85.
        Check.due("255 again", 4, round(false, 255, 1));
        Check.due("255 again, the least", 15, round(true, 255, 1));
        Check.due("255 not again", 187, round(false, 255, 0));
    }

    private static void fortyBytesOfLengths() {
        Check.says("Uses the TAPE up: ROUND (of each two bytes: the yards, 1 or 0; at most 40 bytes)");
        Check.due("40 bytes", 6, round(false, times(20, 60, 1)));
        Check.due("40 bytes to try", 30, tries(times(20, 60, 1)));
        Check.argument("42 bytes", () -> round(false, times(21, 60, 1)));
        Check.argument("42 bytes to try", () -> tries(times(21, 60, 1)));
        Check.argument("400 bytes", () -> round(true, times(200, 60, 1)));
        int[] odd = java.util.Arrays.copyOf(times(20, 60, 1), 39);
        Check.argument("39 bytes", () -> round(false, odd));
        Check.argument("39 bytes to try", () -> tries(odd));
        Check.argument("1 byte", () -> round(true, 60));
        Check.argument("3 bytes", () -> tries(60, 1, 60));
        int[] last = times(20, 60, 1);
        last[38] = 20;
        last[39] = 0;
        // Of 10, 12, 15, 20, 30, 60 those that 20 is not of.
        Check.due("the last row counts", 4, round(false, last));
        last[39] = 2;
        Check.argument("the last row is wrong", () -> round(false, last));
    }

    private static void oneOrNought() {
        Check.says("the yards, 1 or 0");
        for (int no : new int[] {2, 3, 48, 49, 127, 128, 254, 255}) {
            Check.argument("round of " + no, () -> round(false, 60, no));
            Check.argument("least of " + no, () -> round(true, 60, no));
            Check.argument("tries of " + no, () -> tries(60, no));
        }
    }

    private static void yardsToTry() {
        Check.says("TRY: the yards (1 to 255) by which those that fit are parted so that the greater part is the least "
            + "(of several the least; none with fewer than two)");
        Check.due("of all", 240, tries());
        // Two lengths, 40 and 200: 40 yards are of the first alone.
        Check.due("of two", 40, tries(200, 1, 100, 0));
        // 12, 20, 60.
        Check.due("of three", 12, tries(60, 1, 30, 0));
        // 10, 12, 15, 20, 30, 60: 30 yards are of 10, 15, 30.
        Check.due("of six", 30, tries(60, 1));
        // 200 yards are of 25, 40, 50, 100, 200; no other yards are of five lengths that are left.
        Check.due("of 200 yards", 200, tries(20, 0, 39, 0, 44, 0, 58, 0, 62, 0, 81, 0, 152, 0, 165, 0, 170, 0, 177, 0, 180, 0, 192, 0,
            214, 0, 220, 0, 224, 0, 228, 0, 233, 0, 252, 0, 253, 0));
    }

    private static void noTries() {
        Check.says("none with fewer than two");
        Check.due("none fits", -1, tries(0, 0));
        Check.due("one fits", -1, tries(199, 1));
        Check.due("one fits, the least", -1, tries(10, 1));
        Check.due("two fit", 40, tries(200, 1, 100, 0));
    }
}
