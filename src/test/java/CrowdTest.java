/** Promises 41 to 46: black, stretch, fastest, popular, twins, bunch. */
public final class CrowdTest {
    public static void main(String[] args) {
        black();
        fastest();
        popular();
        twins();
        bunch();
        Check.end("CrowdTest");
    }

    private static void black() {
        PromenadeRing ring = Check.ring(FiguresTest.FOUR);
        Check.due("black()", 10, ring.black());
        Check.due("stretch()", 20, ring.stretch());
        ring.mourn(2, true);
        Check.due("three", 14, ring.black());
        // From 10 to 50 it is 40, from 25 to 10 it is 45, from 50 to 25 it is 35.
        Check.due("of three", 35, ring.stretch());
        ring.mourn(1, false);
        ring.mourn(2, false);
        Check.due("one", 0, ring.stretch());
        ring.mourn(3, false);
        Check.due("none", 0, ring.stretch());
        Check.due("nobody", 0, new PromenadeRing().stretch());
        Check.due("at one PLACE", 0, Check.ring("walker at 7 pace 1 black;walker at 7 pace 1 black;walker at 0 pace 0").stretch());
        Check.due("others do not matter", 2, Check.ring("walker at 7 pace 1 black;walker at 8 pace 1;walker at 9 pace 1 black").stretch());
    }

    private static void fastest() {
        PromenadeRing ring = Check.ring(FiguresTest.FOUR);
        Check.due("fastest", 3, ring.fastest(true));
        Check.due("slowest", 1, ring.fastest(false));
        Check.law(ring, "stop if walker > 1");
        Check.due("fastest by STRIDE", 0, ring.fastest(true));
        Check.due("slowest by STRIDE, the least", 2, ring.fastest(false));
        Check.law(ring, "stop");
        Check.due("all stand", 0, ring.fastest(true));
        Check.due("all stand, slowest", 0, ring.fastest(false));
        Check.due("nobody", -1, new PromenadeRing().fastest(true));
        Check.due("nobody slowest", -1, new PromenadeRing().fastest(false));
        Check.due("alike", 1, Check.ring("walker at 0 pace 1;walker at 0 pace 2;walker at 0 pace 2").fastest(true));
    }

    private static void popular() {
        PromenadeRing ring = Check.ring(FiguresTest.FOUR);
        Check.due("nobody met", 0, ring.popular());
        Check.due("without WALKERS", -1, new PromenadeRing().popular());
        ring.hours(2);
        Check.due("two each, the least", 0, ring.popular());
        PromenadeRing other = Check.ring("walker at 50 pace 0;walker at 60 pace 0;walker at 70 pace 0;walker at 40 pace 40");
        other.hours(1);
        Check.due("all three", 3, other.popular());
        // HATS do not matter: 0 and 1 meet again and again.
        PromenadeRing often = Check.ring("long 10;walker at 5 pace 0;walker at 0 pace 9;walker at 5 pace 0");
        often.shun(2, 0, true);
        often.hours(30);
        Check.due("who met more", 1, often.popular());
    }

    private static void twins() {
        Check.due("nobody", 0, new PromenadeRing().twins());
        Check.due("three alike", 3, Check.ring("walker at 5 pace 1;walker at 5 pace 1;walker at 5 pace 1 black").twins());
        Check.due("PACE or PLACE alone", 0, Check.ring("walker at 5 pace 1;walker at 5 pace 2;walker at 6 pace 1").twins());
        Check.due("two and two", 2, Check.ring("walker at 5 pace 1;walker at 6 pace 1;walker at 6 pace 1;walker at 5 pace 1").twins());
    }

    private static void bunch() {
        PromenadeRing ring = Check.ring(FiguresTest.FOUR);
        Check.due("bunch(0)", 1, ring.bunch(0));
        Check.due("bunch(9)", 1, ring.bunch(9));
        Check.due("bunch(10)", 2, ring.bunch(10));
        // From 50: 0 is 10 yards on, 10 is 20, 25 is 35.
        Check.due("bunch(20)", 3, ring.bunch(20));
        Check.due("bunch(34)", 3, ring.bunch(34));
        Check.due("bunch(35)", 4, ring.bunch(35));
        Check.due("bunch(199)", 4, ring.bunch(199));
        Check.argument("bunch(200)", () -> ring.bunch(200));
        Check.argument("bunch(-1)", () -> ring.bunch(-1));
        Check.due("nobody", 0, new PromenadeRing().bunch(5));
        Check.due("at one PLACE", 2, Check.ring("walker at 5 pace 1;walker at 5 pace 2;walker at 6 pace 1").bunch(0));
    }
}
