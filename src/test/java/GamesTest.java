/** Promises 37 to 40: chase, couples, rests, odds. */
public final class GamesTest {
    public static void main(String[] args) {
        chase();
        couples();
        rests();
        odds();
        Check.end("GamesTest");
    }

    private static void chase() {
        PromenadeRing ring = new PromenadeRing();
        Model model = new Model();
        for (int g = 1; g <= 40; g++) {
            for (int t = 0; t <= 20; t++) {
                Check.due("chase(" + g + ", " + t + ")", model.chase(g, t), ring.chase(g, t));
            }
        }
        Check.due("at once", 1, ring.chase(1, 1));
        Check.due("no turn", -1, ring.chase(1, 0));
        Check.due("she flees", -1, ring.chase(2, 20));
        Check.argument("chase(0, 1)", () -> ring.chase(0, 1));
        Check.argument("chase(41, 1)", () -> ring.chase(41, 1));
        Check.argument("chase(1, -1)", () -> ring.chase(1, -1));
        Check.argument("chase(1, 21)", () -> ring.chase(1, 21));
    }

    private static void row(PromenadeRing ring, int... due) {
        int one = 0;
        for (int w = 0; w < due.length; w++) {
            Check.due("couples(" + w + ")", due[w], ring.couples(w));
            one += due[w] >= 0 ? 1 : 0;
        }
        Check.due("pairs", one / 2, ring.couples(-1));
    }

    private static void couples() {
        PromenadeRing ring = Check.ring(FiguresTest.FOUR);
        row(ring, 3, 2, 1, 0);
        Check.index("couples(4)", () -> ring.couples(4));
        Check.index("couples(-2)", () -> ring.couples(-2));
        Check.due("nobody", 0, new PromenadeRing().couples(-1));
        row(Check.ring("walker at 0 pace 1"), -1);
        row(Check.ring("walker at 0 pace 1;walker at 50 pace 1"), 1, 0);
        row(Check.ring("walker at 0 pace 1;walker at 50 pace 1;shuns 0 1"), -1, -1);
        row(Check.ring("walker at 0 pace 1;walker at 50 pace 1;shuns 1 0"), -1, -1);
        // Three at one PLACE: the first way has 0 with 1, and 2 with none.
        row(Check.ring("walker at 0 pace 1;walker at 0 pace 1;walker at 0 pace 1"), 1, 0, -1);
        // The lesser GAP is over PLACE 0.
        row(Check.ring("walker at 2 pace 1;walker at 99 pace 1;walker at 8 pace 1"), 1, 0, -1);
        row(Check.ring("walker at 3 pace 1;walker at 95 pace 1;walker at 8 pace 1"), 2, -1, 0);
        // As many pairs as can be, though 1 and 2 are at one PLACE.
        row(Check.ring("walker at 0 pace 1;walker at 50 pace 1;walker at 50 pace 1;walker at 9 pace 1;shuns 0 3"), 1, 0, 3, 2);
    }

    private static void rests() {
        PromenadeRing ring = Check.ring(FiguresTest.FOUR);
        // Both raising is 2 to 1; both looking away is 0 or -1 to -1 or less; who raises alone makes the other one raise.
        for (int w = 0; w < 4; w++) {
            for (int o = 0; o < 4; o++) {
                int a = w;
                int b = o;
                if (w != o) {
                    Check.due("rests(" + w + ", " + o + ")", 9, ring.rests(w, o));
                } else {
                    Check.argument("rests of one", () -> ring.rests(a, b));
                }
            }
        }
        Check.index("rests(4, 4)", () -> ring.rests(4, 4));
        Check.index("rests(0, 4)", () -> ring.rests(0, 4));
        Check.index("rests(-1, 0)", () -> ring.rests(-1, 0));
    }

    private static void odds() {
        PromenadeRing ring = Check.ring("mist 40");
        Check.due("of none, none", 10000, ring.odds(0, 0));
        Check.due("of none, one", 0, ring.odds(0, 1));
        Check.due("of one, one", 4000, ring.odds(1, 1));
        Check.due("of two, one", 6400, ring.odds(2, 1));
        Check.due("of two, two", 1600, ring.odds(2, 2));
        Check.due("of five, none", 10000, ring.odds(5, 0));
        // 0.4 to the 5th is 0.01024; 5 times 0.0256 times 0.6 is 0.0768.
        Check.due("of five, five", 102, ring.odds(5, 5));
        Check.due("of five, four", 870, ring.odds(5, 4));
        Check.due("of three, five", 0, ring.odds(3, 5));
        Check.argument("odds(6, 0)", () -> ring.odds(6, 0));
        Check.argument("odds(-1, 0)", () -> ring.odds(-1, 0));
        Check.argument("odds(0, 6)", () -> ring.odds(0, 6));
        Check.argument("odds(0, -1)", () -> ring.odds(0, -1));
        PromenadeRing never = new PromenadeRing();
        Check.due("MIST 0", 0, never.odds(5, 1));
        Check.due("MIST 0, none", 10000, never.odds(5, 0));
        PromenadeRing ever = Check.ring("mist 100");
        Check.due("MIST 100", 10000, ever.odds(5, 5));
        Check.due("rounded down", 9999, Check.ring("mist 99").odds(4, 1));
    }
}
