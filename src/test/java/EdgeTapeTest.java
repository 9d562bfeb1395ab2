/** The TAPE when it is empty, full, cut, and used up. */
public final class EdgeTapeTest {
    private static final int BLANKS = 0x20202020;

    public static void main(String[] args) {
        full();
        highestFirst();
        cut();
        cutWords();
        whoUsesItUp();
        whoLeavesIt();
        lasting();
        Check.end("EdgeTapeTest");
    }

    private static int blanks(PromenadeRing ring) {
        return ring.feed(BLANKS, BLANKS, BLANKS, BLANKS, BLANKS);
    }

    /** How many bytes it has, told by what it can be cut to; none are lost by that. */
    private static void has(String what, PromenadeRing ring, int bytes) {
        Check.due(what + ": no more", false, ring.end(bytes + 1));
        Check.due(what + ": so many", true, ring.end(bytes));
    }

    private static void full() {
        Check.says("how many it has; NONE, and none come, if it would have more than 400");
        PromenadeRing ring = new PromenadeRing();
        for (int n = 20; n <= 400; n += 20) {
            Check.due("bytes", n, blanks(ring));
        }
        Check.due("of 420", -1, ring.feed(0x21212121, 0, 0, 0, 0));
        has("none came", ring, 400);
        Check.due("cut by one", true, ring.end(399));
        Check.due("of 419", -1, blanks(ring));
        Check.due("cut to 381", true, ring.end(381));
        Check.due("of 401", -1, blanks(ring));
        has("none came to 381", ring, 381);
        Check.due("cut to 380", true, ring.end(380));
        Check.due("just 400", 400, blanks(ring));
        Check.due("they are as they came", 1, ring.promenade());
        Check.due("used up", 20, blanks(ring));
    }

    private static void highestFirst() {
        Check.says("Twenty bytes come behind the TAPE, of each number the highest first");
        // "hour 123;mist 45    " in five numbers.
        PromenadeRing ring = new PromenadeRing();
        Check.due("twenty", 20, ring.feed(0x686f7572, 0x20313233, 0x3b6d6973, 0x74203435, BLANKS));
        ring.promenade();
        Check.due("HOUR", 123, ring.count(6));
        Check.due("MIST", 4500, ring.odds(1, 1));
        for (int i = 0; i < 20; i++) {
            int[] five = {BLANKS, BLANKS, BLANKS, BLANKS, BLANKS};
            five[i / 4] = BLANKS & ~(0xff << 24 - i % 4 * 8) | 0xff << 24 - i % 4 * 8;
            ring.feed(five[0], five[1], five[2], five[3], five[4]);
            Check.argument("a byte of 255", ring::law);
            Check.due("is byte", i, ring.fault());
        }
    }

    private static void cut() {
        Check.says("The TAPE has its first n bytes alone: true; false, and nothing happens, if it has fewer, or n is below 0");
        PromenadeRing ring = new PromenadeRing();
        Check.due("none of none", true, ring.end(0));
        Check.due("one of none", false, ring.end(1));
        Check.due("below 0 of none", false, ring.end(-1));
        blanks(ring);
        Check.due("below 0", false, ring.end(-1));
        Check.due("the least number", false, ring.end(Integer.MIN_VALUE));
        Check.due("the greatest number", false, ring.end(Integer.MAX_VALUE));
        Check.due("one too many", false, ring.end(21));
        Check.due("nothing happened", 40, blanks(ring));
        Check.due("all of it", true, ring.end(40));
        has("still all", ring, 40);
        Check.due("all but one", true, ring.end(39));
        has("all but one then", ring, 39);
        Check.due("what comes is behind these", 59, blanks(ring));
        Check.due("nothing", true, ring.end(0));
        has("nothing then", ring, 0);
        Check.due("from the begin again", 20, blanks(ring));
    }

    /** What was cut off is not read, though it would go on with the last word or number. */
    private static void cutWords() {
        Check.says("The TAPE has its first n bytes alone");
        PromenadeRing ring = new PromenadeRing();
        Check.put(ring, "mistyx".getBytes());
        ring.end(5);
        Check.due("a word", 1, ring.promenade());
        Check.put(ring, "hour 1234".getBytes());
        ring.end(8);
        Check.due("a number", 2, ring.promenade());
        Check.due("its first digits", 123, ring.count(6));
        Check.put(ring, "stop;x".getBytes());
        ring.end(4);
        Check.due("a LINE", 1, ring.law());
        Check.put(ring, "hour 5;hour 6".getBytes());
        ring.end(7);
        Check.argument("what more must come is not there", ring::promenade);
        Check.due("at its end", 7, ring.fault());
        // What was used up is not read again, though the text is shorter now.
        Check.put(ring, "hour 5555".getBytes());
        Check.argument("four digits", ring::promenade);
        Check.put(ring, "hour 7".getBytes());
        Check.due("one digit behind them", 3, ring.promenade());
        Check.due("HOUR", 7, ring.count(6));
    }

    private static void whoUsesItUp() {
        Check.says("a call that throws changes nothing but the TAPE, where it is used up");
        PromenadeRing ring = Check.ring("walker at 0 pace 0;walker at 0 pace 0");
        String[] names = {"promenade", "law", "backs", "ask", "round", "tries"};
        Check.Call[] calls = {ring::promenade, ring::law, () -> ring.backs(-1), ring::ask, () -> ring.round(true), ring::tries};
        for (int i = 0; i < calls.length; i++) {
            Check.put(ring, 9, 9, 9);
            Check.argument(names[i] + " of what it cannot use", calls[i]);
            has(names[i] + " used it up", ring, 0);
            ring.end(0);
            Check.nothingThrown(names[i] + " of nothing", calls[i]);
            has(names[i] + " has used nothing up", ring, 0);
        }
        Check.put(ring, 0, 1);
        Check.due("backs", 1, ring.backs(-1));
        has("backs that fits used it up", ring, 0);
        Check.put(ring, 0, 1);
        Check.due("ask", -1, ring.ask());
        has("ask that fits used it up", ring, 0);
        Check.put(ring, 0, 1);
        Check.due("round", 191, ring.round(false));
        has("round that fits used it up", ring, 0);
        Check.put(ring, 0, 1);
        Check.due("tries", 240, ring.tries());
        has("tries that fits used it up", ring, 0);
    }

    private static void whoLeavesIt() {
        Check.says("all is as ahead of it (but for the TAPE, fault(), THE IMAGE)");
        PromenadeRing ring = Check.ring("walker at 0 pace 0");
        blanks(ring);
        ring.pace(0, 5);
        ring.image();
        blanks(ring);
        ring.undo();
        has("undo leaves it", ring, 40);
        blanks(ring);
        ring.back();
        has("back leaves it", ring, 60);
        Check.index("a call that throws", () -> ring.lad(1));
        Check.argument("another one", () -> ring.hours(0));
        has("they leave it", ring, 60);
        Check.due("its bytes are still blanks", 2, ring.promenade());
    }

    private static void lasting() {
        Check.says("An object is used for at most 512 calls after it has been made");
        PromenadeRing ring = new PromenadeRing();
        for (int n = 0; n < 7; n++) {
            ring.out(99 - n);
        }
        for (int i = 7; i < 511; i++) {
            Check.nothingThrown("call " + i, () -> ring.hours(200));
        }
        Check.due("the 512th", 9999, ring.count(6));
    }
}
