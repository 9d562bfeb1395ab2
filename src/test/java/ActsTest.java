/** Promises 11 to 16 and 52 to 54: out, pace, shun, mourn, move, lad, undo, image, back. */
public final class ActsTest {
    public static void main(String[] args) {
        out();
        pace();
        shun();
        mourn();
        move();
        lad();
        undone();
        undoneWhole();
        twelve();
        none();
        image();
        imageOfAll();
        throwing();
        Check.end("ActsTest");
    }

    private static void out() {
        PromenadeRing ring = Check.ring("walker at 5 pace 3");
        Check.argument("out(-1)", () -> ring.out(-1));
        Check.argument("out(100)", () -> ring.out(100));
        Check.due("out(99)", 1, ring.out(99));
        Check.due("its PLACE", 0, ring.walker(1, 0));
        Check.due("its PACE", 99, ring.walker(1, 1));
        for (int w = 2; w < 7; w++) {
            Check.due("out(0)", w, ring.out(0));
        }
        Check.state("out of 7", () -> ring.out(5));
        Check.argument("out(100) of 7", () -> ring.out(100));
        Check.due("WALKERS", 7, ring.count(0));
        Check.due("ACTS", 6, ring.count(10));
        // One that sets out where another one's setting out was undone has nothing of that one.
        PromenadeRing again = Check.ring("long 10;walker at 1 pace 0;shelter at 0 seats 1");
        again.out(9);
        again.shun(1, 0, true);
        again.mourn(1, true);
        again.shun(1, 0, false);
        again.hours(3);
        for (int i = 0; i < 5; i++) {
            again.undo();
        }
        again.out(4);
        int[] due = {0, 4, 0, 0, 0, 0, 0};
        for (int what = 0; what < due.length; what++) {
            Check.due("set out anew: " + what, due[what], again.walker(1, what));
        }
    }

    private static void pace() {
        PromenadeRing ring = Check.ring("walker at 5 pace 3");
        Check.due("pace(0, 99)", 3, ring.pace(0, 99));
        Check.due("pace(0, 0)", 99, ring.pace(0, 0));
        Check.due("then", 0, ring.walker(0, 1));
        Check.argument("pace(0, 100)", () -> ring.pace(0, 100));
        Check.argument("pace(0, -1)", () -> ring.pace(0, -1));
        Check.index("pace(1, 100)", () -> ring.pace(1, 100));
        Check.index("pace(-1, 5)", () -> ring.pace(-1, 5));
        Check.due("stays", 0, ring.walker(0, 1));
    }

    private static void shun() {
        PromenadeRing ring = Check.ring("walker at 5 pace 3;walker at 6 pace 3;walker at 7 pace 3");
        Check.due("shun", true, ring.shun(0, 2, true));
        Check.due("once more", false, ring.shun(0, 2, true));
        Check.due("another one", true, ring.shun(0, 1, true));
        Check.due("both", 6, ring.walker(0, 2));
        Check.due("SHUNNED", 1, ring.walker(2, 12));
        Check.due("the other one does not", 0, ring.walker(2, 2));
        Check.due("no more", true, ring.shun(0, 2, false));
        Check.due("no more already", false, ring.shun(0, 2, false));
        Check.due("one", 2, ring.walker(0, 2));
        Check.argument("itself", () -> ring.shun(1, 1, true));
        Check.index("shun(3, 3)", () -> ring.shun(3, 3, true));
        Check.index("shun(0, 3)", () -> ring.shun(0, 3, true));
        Check.index("shun(-1, 0)", () -> ring.shun(-1, 0, false));
    }

    private static void mourn() {
        PromenadeRing ring = Check.ring("walker at 5 pace 3;walker at 6 pace 3 black");
        Check.due("in BLACK", true, ring.mourn(0, true));
        Check.due("in BLACK already", false, ring.mourn(0, true));
        Check.due("not any more", true, ring.mourn(1, false));
        Check.due("not already", false, ring.mourn(1, false));
        Check.due("who", 1, ring.black());
        Check.index("mourn(2)", () -> ring.mourn(2, true));
        Check.index("mourn(-1)", () -> ring.mourn(-1, true));
    }

    private static void move() {
        PromenadeRing ring = Check.ring("long 20;shelter at 5 seats 2;shelter at 6 seats 1");
        Check.due("move(1, 19)", 6, ring.move(1, 19));
        Check.due("move(1, 0)", 19, ring.move(1, 0));
        Check.due("then", 0, ring.shelter(1, 0));
        Check.due("SEATS stay", 1, ring.shelter(1, 1));
        Check.index("move(2, 0)", () -> ring.move(2, 0));
        Check.index("move(-1, 0)", () -> ring.move(-1, 0));
        Check.index("move(0, 20)", () -> ring.move(0, 20));
        Check.index("move(0, -1)", () -> ring.move(0, -1));
        Check.due("stays", 5, ring.shelter(0, 0));
    }

    private static void lad() {
        PromenadeRing ring = Check.ring("walker at 5 pace 79");
        Check.due("a lad", 89, ring.lad(0));
        Check.due("to the most", 99, ring.lad(0));
        Check.due("at most", 99, ring.lad(0));
        ring.pace(0, 90);
        Check.due("over the most", 99, ring.lad(0));
        Check.due("PACE", 99, ring.walker(0, 1));
        Check.index("lad(1)", () -> ring.lad(1));
        Check.index("lad(-1)", () -> ring.lad(-1));
    }

    private static void undone() {
        PromenadeRing ring = Check.ring("long 20;walker at 5 pace 3;walker at 6 pace 2;shelter at 7 seats 1");
        ring.pace(0, 50);
        ring.shun(0, 1, true);
        ring.mourn(1, true);
        ring.move(0, 9);
        ring.lad(1);
        ring.out(8);
        Check.due("ACTS", 6, ring.count(10));
        Check.due("undo", true, ring.undo());
        Check.due("the one who set out is gone", 2, ring.count(0));
        ring.undo();
        Check.due("the lad is gone", 2, ring.walker(1, 1));
        ring.undo();
        Check.due("the SHELTER is back", 7, ring.shelter(0, 0));
        ring.undo();
        Check.due("nobody is in BLACK", 0, ring.black());
        Check.due("ACTS left", 2, ring.count(10));
        ring.undo();
        Check.due("nobody SHUNS", 0, ring.walker(0, 2));
        ring.undo();
        Check.due("PACE is back", 3, ring.walker(0, 1));
        Check.due("there is none", false, ring.undo());
        Check.due("ACTS then", 0, ring.count(10));
    }

    private static void undoneWhole() {
        PromenadeRing ring = Check.ring(FiguresTest.FOUR);
        ring.hours(1);
        ring.hours(7);
        ring.seed(99);
        ring.feed(1, 2, 3, 4, 5);
        Check.due("HOURS of one call are one", 2, ring.count(10));
        ring.undo();
        int[] due = {4, 2, 1, -1, 60, 5, 10, 1, 2, 1, 1};
        for (int what = 0; what < due.length; what++) {
            Check.due("as ahead of it: count(" + what + ")", due[what], ring.count(what));
        }
        Check.due("PLACE", 10, ring.walker(3, 0));
        Check.due("ROUNDS", 1, ring.walker(3, 5));
        Check.due("MET", 1, ring.walker(3, 6));
        Check.due("THE LOG", 9, ring.log(0, 0));
        Check.due("SEED is as ahead of it, too", 1103527590, ring.seed(1103527590));
        Check.due("the TAPE is not", 40, ring.feed(0, 0, 0, 0, 0));
        Check.due("the HOURS are the same again", 5, ring.hours(1));
        Check.due("and not MISTY", 0, ring.count(7));
    }

    private static void twelve() {
        PromenadeRing ring = Check.ring("walker at 5 pace 0");
        for (int i = 1; i <= 15; i++) {
            ring.pace(0, i);
            Check.due("remembered", Math.min(i, 12), ring.count(10));
        }
        for (int i = 14; i >= 3; i--) {
            Check.due("undo", true, ring.undo());
            Check.due("PACE", i, ring.walker(0, 1));
        }
        Check.due("the 13th is not remembered", false, ring.undo());
        Check.due("PACE stays", 3, ring.walker(0, 1));
        ring.pace(0, 70);
        Check.due("another one", true, ring.undo());
        Check.due("PACE again", 3, ring.walker(0, 1));
    }

    private static void none() {
        PromenadeRing ring = Check.ring("walker at 5 pace 0");
        ring.pace(0, 5);
        Check.argument("a wrong text", () -> Check.promenade(ring, "x"));
        Check.argument("a wrong law", () -> Check.law(ring, "x"));
        Check.due("are no texts", 1, ring.count(10));
        Check.law(ring, "");
        Check.due("a law", false, ring.undo());
        ring.pace(0, 5);
        Check.promenade(ring, "");
        Check.due("a text", false, ring.undo());
        ring.pace(0, 5);
        ring.image();
        Check.due("an image", 1, ring.count(10));
        ring.back();
        Check.due("going back", false, ring.undo());
        ring.pace(0, 9);
        ring.undo();
        Check.due("PACE", 5, ring.walker(0, 1));
    }

    private static void image() {
        PromenadeRing ring = Check.ring("walker at 5 pace 1");
        Check.due("none was kept", false, ring.back());
        ring.pace(0, 2);
        Check.due("and nothing happened", 1, ring.count(10));
        ring.image();
        ring.pace(0, 3);
        Check.due("back", true, ring.back());
        Check.due("PACE", 2, ring.walker(0, 1));
        ring.pace(0, 4);
        ring.undo();
        Check.due("undo ahead of the image's", 2, ring.walker(0, 1));
        ring.pace(0, 5);
        Check.due("back once more", true, ring.back());
        Check.due("PACE once more", 2, ring.walker(0, 1));
        ring.pace(0, 6);
        ring.image();
        ring.undo();
        Check.due("undone", 2, ring.walker(0, 1));
        ring.back();
        Check.due("THE IMAGE is not undone", 6, ring.walker(0, 1));
    }

    private static void imageOfAll() {
        PromenadeRing ring = Check.ring(FiguresTest.FOUR);
        Check.law(ring, "haste 1");
        ring.hours(2);
        ring.seed(5);
        int[] counts = new int[11];
        for (int what = 0; what < 11; what++) {
            counts[what] = ring.count(what);
        }
        int hats = ring.walker(0, 4);
        int place = ring.log(0, 3);
        ring.image();
        Check.law(ring, "slow 1;stop");
        Check.promenade(ring, "walker at 3 pace 3;shelter at 3 seats 3;band 40;mist 0;hour 77;misty");
        ring.hours(1);
        Check.argument("a wrong text", () -> Check.law(ring, "stop it"));
        ring.feed(0, 0, 0, 0, 0);
        Check.due("back", true, ring.back());
        counts[10] = 0;
        for (int what = 0; what < 11; what++) {
            Check.due("as it was: count(" + what + ")", counts[what], ring.count(what));
        }
        Check.due("THE LAW", 8, ring.walker(0, 7));
        Check.due("HATS", hats, ring.walker(0, 4));
        Check.due("THE LOG", place, ring.log(0, 3));
        Check.due("SEED", 5, ring.seed(5));
        Check.due("MIST", 4000, ring.odds(1, 1));
        Check.due("fault() is not", 5, ring.fault());
        Check.due("the TAPE is not", 40, ring.feed(0, 0, 0, 0, 0));
        PromenadeRing bare = new PromenadeRing();
        bare.image();
        Check.law(bare, "stop");
        bare.back();
        Check.due("without a law again", -1, bare.count(3));
    }

    private static void throwing() {
        PromenadeRing ring = Check.ring("walker at 5 pace 1;shelter at 5 seats 1");
        Check.index("pace", () -> ring.pace(1, 1));
        Check.argument("hours", () -> ring.hours(0));
        Check.argument("out", () -> ring.out(-1));
        Check.argument("shun", () -> ring.shun(0, 0, true));
        Check.index("mourn", () -> ring.mourn(1, true));
        Check.index("move", () -> ring.move(0, 100));
        Check.index("lad", () -> ring.lad(1));
        Check.due("no ACTS", 0, ring.count(10));
    }
}
