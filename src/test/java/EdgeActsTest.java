/** The edges of ACTS, of what is remembered of them, and of THE IMAGE. */
public final class EdgeActsTest {
    private static final String RING = "long 50;walker at 5 pace 30;walker at 20 pace 3 black;walker at 20 pace 0;shuns 1 2;"
        + "shelter at 7 seats 1;shelter at 9 seats 2;band 3;mist 50;hour 4";

    public static void main(String[] args) {
        settingOut();
        lads();
        changes();
        moving();
        eachIsRemembered();
        twelve();
        hoursOfOneCall();
        noneToUndo();
        noneRemembered();
        oneImage();
        imageOfNobody();
        noImage();
        Check.end("EdgeActsTest");
    }

    private static void settingOut() {
        Check.says("one sets out (AT PLACE 0, PACE as told, all else as at first)");
        PromenadeRing ring = Check.ring(RING);
        ring.hours(200);
        int number = ring.out(99);
        Check.due("the next number", 3, number);
        int[] due = {0, 99, 0, 0, 0, 0, 0};
        for (int what = 0; what < due.length; what++) {
            Check.due("walker(3, " + what + ")", due[what], ring.walker(3, what));
        }
        ring.shun(3, 0, true);
        ring.mourn(3, true);
        ring.shun(3, 0, false);
        ring.hours(5);
        for (int i = 0; i < 5; i++) {
            ring.undo();
        }
        ring.out(0);
        due[1] = 0;
        for (int what = 0; what < due.length; what++) {
            Check.due("in the place of one undone: walker(3, " + what + ")", due[what], ring.walker(3, what));
        }
    }

    private static void lads() {
        int[][] cases = {{0, 10}, {88, 98}, {89, 99}, {90, 99}, {98, 99}, {99, 99}};
        for (int[] row : cases) {
            PromenadeRing ring = Check.ring("walker at 5 pace " + row[0] + ";walker at 6 pace 1");
            Check.says("A lad comes: PACE then.");
            Check.due("from " + row[0], row[1], ring.lad(0));
            Check.says("a lad comes to a WALKER (PACE 10 more, 99 at most)");
            Check.due("PACE then", row[1], ring.walker(0, 1));
            Check.due("PACE of the other one", 1, ring.walker(1, 1));
        }
    }

    private static void changes() {
        Check.says("One SHUNS another one, or does not: whether that changed.");
        PromenadeRing ring = Check.ring(RING);
        Check.due("already not", false, ring.shun(0, 2, false));
        Check.due("now", true, ring.shun(0, 2, true));
        Check.due("already", false, ring.shun(0, 2, true));
        Check.due("that one alone", 4, ring.walker(0, 2));
        Check.due("the other way it is another one", false, ring.shun(2, 0, false));
        Check.due("not any more", true, ring.shun(0, 2, false));
        Check.due("none", 0, ring.walker(0, 2));
        Check.says("In BLACK, or not: whether that changed.");
        Check.due("already in BLACK", false, ring.mourn(1, true));
        Check.due("not any more in BLACK", true, ring.mourn(1, false));
        Check.due("already not in BLACK", false, ring.mourn(1, false));
        Check.due("in BLACK now", true, ring.mourn(1, true));
        Check.due("that one alone in BLACK", 2, ring.black());
        Check.says("PACE is told: what it was.");
        Check.due("it was", 30, ring.pace(0, 99));
        Check.due("it was the most", 99, ring.pace(0, 99));
        Check.due("it was the most still", 99, ring.pace(0, 0));
        Check.due("it was the least", 0, ring.pace(0, 30));
    }

    private static void moving() {
        Check.says("A SHELTER is moved: where it was.");
        PromenadeRing ring = Check.ring(RING);
        Check.due("to the last PLACE", 9, ring.move(1, 49));
        Check.due("to the first PLACE", 49, ring.move(1, 0));
        Check.due("to where it is", 0, ring.move(1, 0));
        Check.due("to where another one is", 0, ring.move(1, 7));
        Check.due("there", 7, ring.shelter(1, 0));
        Check.index("behind the last PLACE", () -> ring.move(1, 50));
        Check.index("ahead of the first PLACE", () -> ring.move(1, -1));
        Check.index("no such SHELTER", () -> ring.move(2, 0));
        Check.index("no such SHELTER and PLACE", () -> ring.move(-1, -1));
        Check.due("there still", 7, ring.shelter(1, 0));
    }

    private static Check.Call[] acts(PromenadeRing ring) {
        return new Check.Call[] {() -> ring.hours(1), () -> ring.hours(200), () -> ring.out(7), () -> ring.pace(0, 99),
            () -> ring.shun(0, 1, true), () -> ring.shun(1, 2, false), () -> ring.mourn(0, true), () -> ring.mourn(1, false),
            () -> ring.move(0, 49), () -> ring.lad(2)};
    }

    private static void eachIsRemembered() {
        Check.says("UNDONE: the latest ACT not undone yet");
        for (int i = 0; i < 10; i++) {
            PromenadeRing ring = Check.ring(RING);
            String before = Picture.of(ring);
            acts(ring)[i].answer();
            Check.due("it is an ACT: " + i, 1, ring.count(10));
            Check.due("it changes something: " + i, false, before.equals(Picture.of(ring)));
            Check.due("it is undone: " + i, true, ring.undo());
            Check.due("all is as ahead of it: " + i, before, Picture.of(ring));
            Check.due("no other one: " + i, false, ring.undo());
        }
        PromenadeRing all = Check.ring(RING);
        String[] pictures = new String[10];
        for (int i = 0; i < 10; i++) {
            pictures[i] = Picture.of(all);
            acts(all)[i].answer();
        }
        for (int i = 9; i >= 0; i--) {
            Check.due("one by one", true, all.undo());
            Check.due("to ahead of ACT " + i, pictures[i], Picture.of(all));
        }
        Check.due("ahead of all there is none", false, all.undo());
    }

    private static void twelve() {
        Check.says("(12 are remembered; HOURS of one call are one)");
        PromenadeRing ring = Check.ring("walker at 0 pace 50");
        for (int i = 1; i <= 12; i++) {
            ring.pace(0, i);
            Check.due("so many", i, ring.count(10));
        }
        for (int i = 11; i >= 1; i--) {
            ring.undo();
            Check.due("PACE", i, ring.walker(0, 1));
        }
        Check.due("the first of twelve", true, ring.undo());
        Check.due("PACE ahead of all", 50, ring.walker(0, 1));
        Check.due("none more", false, ring.undo());
        for (int i = 1; i <= 13; i++) {
            ring.pace(0, i);
        }
        Check.due("twelve of thirteen", 12, ring.count(10));
        for (int i = 12; i >= 1; i--) {
            Check.due("undone", true, ring.undo());
            Check.due("PACE of thirteen", i, ring.walker(0, 1));
        }
        Check.due("the first of thirteen is not remembered", false, ring.undo());
        Check.due("its PACE stays", 1, ring.walker(0, 1));
        ring.pace(0, 70);
        ring.pace(0, 71);
        ring.undo();
        ring.pace(0, 72);
        ring.undo();
        Check.due("what was undone is not the latest any more", 70, ring.walker(0, 1));
        ring.undo();
        Check.due("the one ahead of it", 1, ring.walker(0, 1));
    }

    private static void hoursOfOneCall() {
        Check.says("HOURS of one call are one");
        PromenadeRing ring = Check.ring(RING);
        String before = Picture.of(ring);
        ring.hours(200);
        Check.due("one", 1, ring.count(10));
        ring.undo();
        Check.due("all of them", before, Picture.of(ring));
    }

    private static void noneToUndo() {
        Check.says("UNDONE: whether there was one.");
        PromenadeRing fresh = new PromenadeRing();
        Check.due("of a new object", false, fresh.undo());
        PromenadeRing ring = Check.ring(RING);
        ring.seed(5);
        String before = Picture.of(ring);
        Check.due("none", false, ring.undo());
        Check.due("nothing happens", before, Picture.of(ring));
        ring.pace(0, 5);
        Check.due("one", true, ring.undo());
        Check.due("none then", false, ring.undo());
        Check.due("nothing more happens", before, Picture.of(ring));
    }

    private static void noneRemembered() {
        Check.says("A text, going back: none are remembered.");
        PromenadeRing ring = Check.ring(RING);
        ring.image();
        ring.pace(0, 5);
        Check.markedPromenade(ring, "hour 5;^x");
        Check.markedLaw(ring, "stop;^x");
        Check.due("wrong texts are none", 1, ring.count(10));
        Check.promenade(ring, "");
        Check.due("an empty text is one", 0, ring.count(10));
        Check.due("it cannot be undone", false, ring.undo());
        Check.due("nor what was ahead of it", 5, ring.walker(0, 1));
        ring.pace(0, 6);
        Check.law(ring, "");
        Check.due("an empty law is one", false, ring.undo());
        ring.pace(0, 7);
        ring.image();
        Check.due("keeping an image is none", 1, ring.count(10));
        Check.due("going back", true, ring.back());
        Check.due("none are remembered", 0, ring.count(10));
        Check.due("so it stays", false, ring.undo());
        Check.due("PACE", 7, ring.walker(0, 1));
        PromenadeRing full = new PromenadeRing();
        for (int i = 0; i < 12; i++) {
            Check.promenade(full, "");
        }
        full.out(5);
        Check.unsupported("a thirteenth text", () -> Check.promenade(full, ""));
        Check.due("is none", true, full.undo());
    }

    private static void oneImage() {
        Check.says("THE IMAGE (one) of all may be kept, and gone back to (but for the TAPE, fault() and THE IMAGE itself).");
        PromenadeRing ring = Check.ring(RING);
        Check.law(ring, "haste 1 if misty");
        ring.hours(3);
        ring.image();
        ring.back();
        String kept = Picture.of(ring);
        ring.hours(7);
        ring.seed(99);
        Check.law(ring, "stop");
        Check.promenade(ring, "walker at 1 pace 1;shelter at 1 seats 1;band 1;mist 1;misty;hour 1");
        Check.markedPromenade(ring, "^x");
        Check.due("back", true, ring.back());
        Check.due("all but fault()", kept.replace("fault -1", "fault 0"), Picture.of(ring));
        ring.pace(0, 1);
        Check.due("once more", true, ring.back());
        Check.due("as often as one will", kept.replace("fault -1", "fault 0"), Picture.of(ring));
        Check.says("`void image()`: THE IMAGE is kept.");
        ring.pace(0, 1);
        ring.image();
        ring.pace(0, 2);
        ring.back();
        Check.due("the latest one kept", 1, ring.walker(0, 1));
        ring.pace(0, 3);
        ring.image();
        ring.undo();
        ring.back();
        Check.due("THE IMAGE is not undone", 3, ring.walker(0, 1));
    }

    private static void imageOfNobody() {
        Check.says("One goes back to THE IMAGE: true");
        PromenadeRing ring = new PromenadeRing();
        String fresh = Picture.of(ring);
        ring.image();
        Check.promenade(ring, RING);
        Check.law(ring, "stop");
        ring.hours(9);
        ring.feed(1, 2, 3, 4, 5);
        Check.due("back", true, ring.back());
        Check.due("nobody again", fresh, Picture.of(ring));
        Check.index("no WALKER", () -> ring.walker(0, 0));
        Check.index("no SHELTER", () -> ring.shelter(0, 0));
        Check.index("no PLACE beyond", () -> ring.gap(100, 0));
        Check.due("no law", -1, ring.count(3));
        Check.due("the TAPE stays", 40, ring.feed(0, 0, 0, 0, 0));
        ring.end(0);
        for (int i = 1; i <= 12; i++) {
            Check.due("texts are counted anew", i, Check.promenade(ring, ""));
        }
    }

    private static void noImage() {
        Check.says("false, and nothing happens, if none was kept");
        PromenadeRing ring = Check.ring(RING);
        ring.hours(3);
        ring.pace(0, 9);
        String before = Picture.of(ring);
        Check.due("none", false, ring.back());
        Check.due("nothing happens", before, Picture.of(ring));
        Check.due("ACTS are remembered", 2, ring.count(10));
    }
}
