import java.util.Arrays;
import java.util.NoSuchElementException;

/** A promenade that goes one way for good, and bends. The document says what each call answers. */
public final class PromenadeRing {
    public static final int NONE = -1;

    private static final int MOST_WALKERS = 7;
    private static final int MOST_SHELTERS = 4;
    private static final int MOST_TEXTS = 12;
    private static final int MOST_PROMENADE_LINES = 14;
    private static final int MOST_LAW_LINES = 12;
    private static final int MOST_PACE = 99;
    private static final int MOST_TOLD = 999;
    private static final int LAST_HOUR = 9999;
    private static final int MOST_HOURS = 200;
    private static final int MOST_STANDS = 6;
    private static final int LEAST_LONG = 10;
    private static final int MOST_LONG = 200;
    private static final int LONG_AT_FIRST = 100;
    private static final int MOST_BYTES = 400;
    private static final int BYTES_A_FEED = 20;
    private static final int MOST_ROW_BYTES = 40;
    private static final int MOST_YARDS_TOLD = 255;
    private static final int MOST_LOG_ROWS = 60;
    private static final int MOST_REMEMBERED = 12;
    private static final int MOST_DEEP = 6;
    private static final int MOST_CHASE_GAP = 40;
    private static final int MOST_CHASE_TURNS = 20;
    private static final int MOST_ODDS_HOURS = 5;
    private static final int MOST_SPAN_SEEDS = 6;
    private static final int WITHIN_HEARING = 10;

    /** Above every sum of GAPS that seven can have, so that one seat or pair more outweighs all of them. */
    private static final int ONE_MORE = 10000;

    /** What LINES of THE LAW are made of: below these all codes are numbers of up to three digits. */
    private static final int CODE_WALKER = 1000;
    private static final int CODE_AT = 1001;
    private static final int CODE_PACE = 1002;
    private static final int CODE_GAP = 1003;
    private static final int CODE_MET = 1004;
    private static final int CODE_ROUNDS = 1005;
    private static final int CODE_HATS = 1006;
    private static final int CODE_BLACK = 1007;
    private static final int CODE_MISTY = 1008;
    private static final int CODE_HEARS = 1009;
    private static final int CODE_NOT = 1010;
    private static final int CODE_AND = 1011;
    private static final int CODE_OR = 1012;
    private static final int CODE_LESS = 1013;
    private static final int CODE_MORE = 1014;
    private static final int CODE_PLUS = 1015;

    private static final Word[] WORDS = Word.values();

    private final int[] tape = new int[MOST_BYTES];
    private int taped = 0;
    private final PromenadeReader promenadeReader = new PromenadeReader();
    private final LawReader lawReader = new LawReader();
    private int fault = NONE;
    private final Law law = new Law();
    private final Law keptLaw = new Law();
    private final Scene now = new Scene();
    private final Scene kept = new Scene();
    private boolean isKept = false;
    private final Scene[] past = new Scene[MOST_REMEMBERED];
    private int remembered = 0;
    /** Where what only might be is played, so that nothing of it stays. */
    private final Scene stage = new Scene();
    private final int[] seen = new int[MOST_WALKERS];
    private final Orders orders = new Orders();
    private final Lengths lengths = new Lengths();
    private final Seating seating = new Seating();
    private final Coupling coupling = new Coupling();

    public PromenadeRing() {
        for (int i = 0; i < past.length; i++) {
            past[i] = new Scene();
        }
    }

    // ---- the TAPE and the texts

    public int feed(int a, int b, int c, int d, int e) {
        if (taped + BYTES_A_FEED > MOST_BYTES) {
            return NONE;
        }
        append(a);
        append(b);
        append(c);
        append(d);
        append(e);
        return taped;
    }

    public boolean end(int n) {
        if (n < 0 || n > taped) {
            return false;
        }
        taped = n;
        return true;
    }

    public int promenade() throws IllegalArgumentException, UnsupportedOperationException {
        promenadeReader.scene.become(now);
        fault = promenadeReader.readLines(tape, takeTape(), MOST_PROMENADE_LINES);
        if (fault != NONE) {
            throw new IllegalArgumentException("the text is wrong");
        }
        if (now.texts >= MOST_TEXTS) {
            throw new UnsupportedOperationException("there are 12 texts");
        }
        now.become(promenadeReader.scene);
        now.texts++;
        remembered = 0;
        return now.texts;
    }

    public int law() throws IllegalArgumentException {
        lawReader.law.clear();
        fault = lawReader.readLines(tape, takeTape(), MOST_LAW_LINES);
        if (fault != NONE) {
            throw new IllegalArgumentException("the text is wrong");
        }
        law.become(lawReader.law);
        remembered = 0;
        return law.lines;
    }

    public int fault() {
        return fault;
    }

    // ---- what there is

    public int walker(int walker, int what) throws IndexOutOfBoundsException, NoSuchElementException {
        needWalker(walker);
        switch (what) {
            case 0:
                return now.at[walker];
            case 1:
                return now.pace[walker];
            case 2:
                return now.shuns[walker];
            case 3:
                return now.inBlack >> walker & 1;
            case 4:
                return now.hats[walker];
            case 5:
                return now.rounds[walker];
            case 6:
                return now.met[walker];
            case 7:
                return law.strideOf(now, walker);
            case 8:
                return now.justAhead(walker);
            case 9:
                return now.walkers < 2 ? NONE : now.yardsAhead(walker);
            case 10:
                return now.farOf(walker, now.everyShelter());
            case 11:
                return now.othersThan(walker) & ~circleOf(walker, MOST_HOURS, 0);
            case 12:
                return now.shunnersOf(walker);
            case 13:
                return now.shareOf(walker);
            default:
                throw new NoSuchElementException("there is no such thing of a walker");
        }
    }

    public int shelter(int shelter, int what) throws IndexOutOfBoundsException, NoSuchElementException {
        needShelter(shelter);
        switch (what) {
            case 0:
                return now.stand[shelter];
            case 1:
                return now.seats[shelter];
            case 2:
                return bestPlace(shelter);
            default:
                throw new NoSuchElementException("there is no such thing of a shelter");
        }
    }

    public int gap(int place, int other) throws IndexOutOfBoundsException {
        needPlace(place);
        needPlace(other);
        return now.yards(place, other);
    }

    public int count(int what) {
        switch (what) {
            case 0:
                return now.walkers;
            case 1:
                return now.shelters;
            case 2:
                return now.texts;
            case 3:
                return law.lines;
            case 4:
                return now.yardsRound;
            case 5:
                return now.band;
            case 6:
                return now.hour;
            case 7:
                return now.misty ? 1 : 0;
            case 8:
                return now.allHats();
            case 9:
                return now.log.size;
            case 10:
                return remembered;
            default:
                return NONE;
        }
    }

    // ---- ACTS

    public int hours(int n) throws IllegalArgumentException {
        needWithin(n, 1, MOST_HOURS);
        remember();
        int times = 0;
        for (int i = 0; i < n; i++) {
            times += now.goHour(law, NONE, seen);
            now.drawMist();
        }
        return times;
    }

    public int out(int pace) throws IllegalArgumentException, IllegalStateException {
        needWithin(pace, 0, MOST_PACE);
        if (now.walkers >= MOST_WALKERS) {
            throw new IllegalStateException("there are 7 walkers");
        }
        remember();
        now.addWalker(0, pace);
        return now.walkers - 1;
    }

    public int pace(int walker, int n) throws IndexOutOfBoundsException, IllegalArgumentException {
        needWalker(walker);
        needWithin(n, 0, MOST_PACE);
        remember();
        int before = now.pace[walker];
        now.pace[walker] = n;
        return before;
    }

    public boolean shun(int walker, int other, boolean is) throws IndexOutOfBoundsException, IllegalArgumentException {
        needTwo(walker, other);
        remember();
        int before = now.shuns[walker];
        now.shuns[walker] = is ? before | 1 << other : before & ~(1 << other);
        return now.shuns[walker] != before;
    }

    public boolean mourn(int walker, boolean is) throws IndexOutOfBoundsException {
        needWalker(walker);
        remember();
        int before = now.inBlack;
        now.inBlack = is ? before | 1 << walker : before & ~(1 << walker);
        return now.inBlack != before;
    }

    public int move(int shelter, int place) throws IndexOutOfBoundsException {
        needShelter(shelter);
        needPlace(place);
        remember();
        int before = now.stand[shelter];
        now.stand[shelter] = place;
        return before;
    }

    public int lad(int walker) throws IndexOutOfBoundsException {
        needWalker(walker);
        remember();
        now.pace[walker] = Math.min(now.pace[walker] + 10, MOST_PACE);
        return now.pace[walker];
    }

    public int seed(int n) {
        int before = now.seed;
        now.seed = n;
        return before;
    }

    public boolean undo() {
        if (remembered <= 0 || remembered > past.length) {
            return false;
        }
        remembered--;
        now.become(past[remembered]);
        return true;
    }

    public void image() {
        kept.become(now);
        keptLaw.become(law);
        isKept = true;
    }

    public boolean back() {
        if (!isKept) {
            return false;
        }
        now.become(kept);
        law.become(keptLaw);
        remembered = 0;
        return true;
    }

    // ---- who is where, and when

    public int order(int k) {
        for (int w = 0; w < now.walkers; w++) {
            if (now.rankOf(w) == k) {
                return w;
            }
        }
        return NONE;
    }

    public int where(int walker, int n) throws IndexOutOfBoundsException, IllegalArgumentException {
        needWalker(walker);
        needWithin(n, 0, MOST_HOURS);
        playHours(n);
        return stage.at[walker];
    }

    public int laps(int walker, int n) throws IndexOutOfBoundsException, IllegalArgumentException {
        needWalker(walker);
        needWithin(n, 0, MOST_HOURS);
        playHours(n);
        return stage.rounds[walker];
    }

    public int up(int walker, int other) throws IndexOutOfBoundsException, IllegalArgumentException {
        needTwo(walker, other);
        beginPlay();
        for (int n = 1; n <= MOST_HOURS; n++) {
            stage.goHour(law, NONE, seen);
            if ((seen[walker] >> other & 1) == 1) {
                return n;
            }
        }
        return NONE;
    }

    public int circle(int walker, int n) throws IndexOutOfBoundsException, IllegalArgumentException {
        needWalker(walker);
        needWithin(n, 0, MOST_HOURS);
        return circleOf(walker, n, 0);
    }

    public int alone(int walker, int place) throws IndexOutOfBoundsException {
        needWalker(walker);
        needPlace(place);
        for (int n = 0; n <= MOST_HOURS; n++) {
            if (now.aloneAfter(walker, n) == place) {
                return n;
            }
        }
        return NONE;
    }

    public int both(int walker, int other) throws IndexOutOfBoundsException, IllegalArgumentException {
        needTwo(walker, other);
        for (int n = 0; n <= MOST_HOURS; n++) {
            if (now.aloneAfter(walker, n) == now.aloneAfter(other, n)) {
                return n;
            }
        }
        return NONE;
    }

    public int period(int walker) throws IndexOutOfBoundsException {
        needWalker(walker);
        for (int n = 1; n < now.yardsRound; n++) {
            if (now.aloneAfter(walker, n) == now.at[walker]) {
                return n;
            }
        }
        return now.yardsRound;
    }

    public int stands(int walker, int set, int n) throws IndexOutOfBoundsException, IllegalArgumentException {
        needWalker(walker);
        needWithin(n, 1, MOST_STANDS);
        int wanted = set & now.othersThan(walker);
        for (int few = 0; few <= n; few++) {
            for (int still = 0; still < 1 << n; still++) {
                if (Integer.bitCount(still) == few && circleOf(walker, n, still) == wanted) {
                    return still;
                }
            }
        }
        return NONE;
    }

    // ---- what is found by asking

    public int backs(int k) throws IllegalArgumentException {
        readBacks();
        int all = orders.countAll();
        if (k == NONE) {
            return all;
        }
        return all == 0 ? NONE : orders.firstAt(k);
    }

    public int ask() throws IllegalArgumentException {
        readBacks();
        return orders.bestPair();
    }

    public int round(boolean least) throws IllegalArgumentException {
        readLengths();
        return least ? lengths.least() : lengths.fitting;
    }

    public int tries() throws IllegalArgumentException {
        readLengths();
        return lengths.bestYards();
    }

    public int calls(int walker, int other, int e) throws IndexOutOfBoundsException, IllegalArgumentException {
        needWalker(walker);
        needWalker(other);
        needWithin(e, 1, MOST_LONG);
        int reached = 1 << walker;
        for (int n = 0; n < now.walkers; n++) {
            if ((reached >> other & 1) == 1) {
                return n;
            }
            reached = now.calledFrom(reached, e);
        }
        return NONE;
    }

    public int told(int walker, int e) throws IndexOutOfBoundsException, IllegalArgumentException {
        needWalker(walker);
        needWithin(e, 1, MOST_LONG);
        int reached = 1 << walker;
        for (int n = 1; n < now.walkers; n++) {
            reached = now.calledFrom(reached, e);
        }
        return reached;
    }

    public int ear() {
        // Calls go one way round alone: to come from each to each they must come over every
        // stretch between two PLACES that follow one another, so the longest one is what is asked.
        int longest = now.walkers == 0 ? NONE : 1;
        for (int w = 0; w < now.walkers; w++) {
            longest = Math.max(longest, now.yardsToNextPlace(w));
        }
        return longest;
    }

    // ---- SHELTERS

    public int farthest() {
        int farthest = NONE;
        int most = NONE;
        for (int w = 0; w < now.walkers; w++) {
            int far = now.farOf(w, now.everyShelter());
            if (far > most) {
                most = far;
                farthest = w;
            }
        }
        return farthest;
    }

    public int few(int n) throws IllegalArgumentException {
        needWithin(n, 0, MOST_LONG - 1);
        for (int few = 0; few <= now.shelters; few++) {
            for (int set = 0; set <= now.everyShelter(); set++) {
                if (Integer.bitCount(set) == few && now.nobodyIsFarther(n, set)) {
                    return set;
                }
            }
        }
        return NONE;
    }

    public int seated(int walker) throws IndexOutOfBoundsException {
        if (walker != NONE) {
            needWalker(walker);
        }
        seating.seat(now);
        return walker == NONE ? seating.seatedOnes : seating.shelterOf[walker];
    }

    public int swaps() {
        seating.seat(now);
        return seating.countSwaps(now);
    }

    // ---- games and pairs

    public int chase(int g, int t) throws IllegalArgumentException {
        needWithin(g, 1, MOST_CHASE_GAP);
        needWithin(t, 0, MOST_CHASE_TURNS);
        // He has her at once from a gap of 1, whatever she does. From a greater one she goes 3 yards
        // each turn: his 4 yards make it 1 less, the 2 that must follow 1 more again, so it is never 0.
        return g == 1 && t >= 1 ? 1 : NONE;
    }

    public int couples(int walker) throws IndexOutOfBoundsException {
        if (walker != NONE) {
            needWalker(walker);
        }
        coupling.couple(now);
        return walker == NONE ? coupling.pairs : coupling.partnerOf[walker];
    }

    public int rests(int walker, int other) throws IndexOutOfBoundsException, IllegalArgumentException {
        needTwo(walker, other);
        int choices = 0;
        for (int own = 0; own < 2; own++) {
            for (int its = 0; its < 2; its++) {
                boolean stays = now.worthOf(walker, own, its) >= now.worthOf(walker, 1 - own, its);
                boolean otherStays = now.worthOf(other, its, own) >= now.worthOf(other, 1 - its, own);
                if (stays && otherStays) {
                    choices |= 1 << 2 * own + its;
                }
            }
        }
        return choices;
    }

    public int odds(int n, int k) throws IllegalArgumentException {
        needWithin(n, 0, MOST_ODDS_HOURS);
        needWithin(k, 0, MOST_ODDS_HOURS);
        long ways = 1;
        long fitting = 0;
        for (int misty = 0; misty <= n; misty++) {
            if (misty >= k) {
                fitting += ways * power(now.mist, misty) * power(100 - now.mist, n - misty);
            }
            ways = ways * (n - misty) / (misty + 1);
        }
        return (int) (fitting * 10000 / Math.max(1L, power(100, n)));
    }

    // ---- of all together

    public int black() {
        return now.inBlack;
    }

    public int stretch() {
        int least = NONE;
        for (int w = 0; w < now.walkers; w++) {
            int most = now.farthestInBlack(w);
            if ((now.inBlack >> w & 1) == 1 && (least == NONE || most < least)) {
                least = most;
            }
        }
        return Math.max(0, least);
    }

    public int fastest(boolean most) {
        int found = NONE;
        int best = 0;
        for (int w = 0; w < now.walkers; w++) {
            int stride = law.strideOf(now, w);
            if (found == NONE || (most ? stride > best : stride < best)) {
                best = stride;
                found = w;
            }
        }
        return found;
    }

    public int popular() {
        int found = NONE;
        int most = NONE;
        for (int w = 0; w < now.walkers; w++) {
            int met = Integer.bitCount(now.met[w]);
            if (met > most) {
                most = met;
                found = w;
            }
        }
        return found;
    }

    public int twins() {
        int pairs = 0;
        for (int w = 0; w < now.walkers; w++) {
            for (int o = w + 1; o < now.walkers; o++) {
                if (now.pace[w] == now.pace[o] && now.at[w] == now.at[o]) {
                    pairs++;
                }
            }
        }
        return pairs;
    }

    public int bunch(int e) throws IllegalArgumentException {
        needWithin(e, 0, MOST_LONG - 1);
        int most = 0;
        for (int w = 0; w < now.walkers; w++) {
            most = Math.max(most, Integer.bitCount(now.calledFrom(1 << w, e)));
        }
        return most;
    }

    // ---- trials and THE LOG

    public int trial(int n, boolean misty) throws IllegalArgumentException {
        needWithin(n, 0, MOST_HOURS);
        int mistyHours = playDrawing(n, now.seed);
        return misty ? mistyHours : stage.allHats();
    }

    public int span(int n, boolean most) throws IllegalArgumentException {
        needWithin(n, 0, MOST_HOURS);
        int best = NONE;
        for (int seed = 1; seed <= MOST_SPAN_SEEDS; seed++) {
            playDrawing(n, seed);
            int hats = stage.allHats();
            if (best == NONE || (most ? hats > best : hats < best)) {
                best = hats;
            }
        }
        return best;
    }

    public int led(int walker, boolean hour) throws IndexOutOfBoundsException {
        needWalker(walker);
        int rows = 0;
        for (int ago = 0; ago < now.log.size; ago++) {
            if (now.log.read(ago, Log.WHO) == walker) {
                if (hour) {
                    return now.log.read(ago, Log.HOUR);
                }
                rows++;
            }
        }
        return hour ? NONE : rows;
    }

    public int log(int ago, int what) throws NoSuchElementException {
        if (what < Log.HOUR || what > Log.PLACE) {
            throw new NoSuchElementException("there is no such thing of a row");
        }
        return now.log.read(ago, what);
    }

    // ---- what the calls above share

    private void needWalker(int walker) {
        if (walker < 0 || walker >= now.walkers) {
            throw new IndexOutOfBoundsException("there is no such walker");
        }
    }

    private void needTwo(int walker, int other) {
        needWalker(walker);
        needWalker(other);
        if (walker == other) {
            throw new IllegalArgumentException("both are one");
        }
    }

    private void needShelter(int shelter) {
        if (shelter < 0 || shelter >= now.shelters) {
            throw new IndexOutOfBoundsException("there is no such shelter");
        }
    }

    private void needPlace(int place) {
        if (place < 0 || place >= now.yardsRound) {
            throw new IndexOutOfBoundsException("there is no such place");
        }
    }

    private static void needWithin(int n, int least, int most) {
        if (n < least || n > most) {
            throw new IllegalArgumentException("the number is none");
        }
    }

    private void append(int number) {
        for (int shift = 24; shift >= 0 && taped < tape.length; shift -= 8) {
            tape[taped] = number >>> shift & 255;
            taped++;
        }
    }

    /** Uses the TAPE up: how many bytes it had, which stand there until others come. */
    private int takeTape() {
        int bytes = taped;
        taped = 0;
        return bytes;
    }

    private void remember() {
        if (remembered >= past.length) {
            Scene oldest = past[0];
            for (int i = 1; i < past.length; i++) {
                past[i - 1] = past[i];
            }
            past[past.length - 1] = oldest;
            remembered = past.length - 1;
        }
        past[remembered].become(now);
        remembered++;
    }

    private void beginPlay() {
        stage.become(now);
        Arrays.fill(seen, 0);
    }

    private void playHours(int n) {
        beginPlay();
        for (int i = 0; i < n; i++) {
            stage.goHour(law, NONE, seen);
        }
    }

    /** CIRCLE, if the WALKER stands still in the HOURS that are bits of still. */
    private int circleOf(int walker, int n, int still) {
        beginPlay();
        int others = now.othersThan(walker);
        for (int i = 0; i < n && seen[walker] != others; i++) {
            boolean isStill = i < MOST_STANDS && (still >> i & 1) == 1;
            stage.goHour(law, isStill ? walker : NONE, seen);
        }
        return seen[walker];
    }

    /** Behind how many HOURS it was MISTY. */
    private int playDrawing(int n, int seed) {
        beginPlay();
        stage.seed = seed;
        int mistyHours = 0;
        for (int i = 0; i < n; i++) {
            stage.goHour(law, NONE, seen);
            stage.drawMist();
            mistyHours += stage.misty ? 1 : 0;
        }
        return mistyHours;
    }

    private int bestPlace(int shelter) {
        int best = now.stand[shelter];
        int least = NONE;
        stage.become(now);
        for (int place = 0; place < now.yardsRound && now.walkers > 0; place++) {
            stage.stand[shelter] = place;
            int far = stage.greatestFar();
            if (least == NONE || far < least) {
                least = far;
                best = place;
            }
        }
        return best;
    }

    private void readBacks() {
        if (!orders.readRows(tape, takeTape(), now.walkers)) {
            throw new IllegalArgumentException("the tape is not backs that were seen");
        }
    }

    private void readLengths() {
        if (!lengths.readRows(tape, takeTape())) {
            throw new IllegalArgumentException("the tape is not yards and what came again");
        }
    }

    private static long power(int base, int exponent) {
        long power = 1;
        for (int i = 0; i < exponent; i++) {
            power *= base;
        }
        return power;
    }

    // ---- classes inside

    /** The words of both kinds of texts, with the code that one has in a condition of THE LAW. */
    private enum Word {
        LONG("long", NONE),
        WALKER("walker", CODE_WALKER),
        AT("at", CODE_AT),
        PACE("pace", CODE_PACE),
        BLACK("black", CODE_BLACK),
        SHUNS("shuns", NONE),
        SHELTER("shelter", NONE),
        SEATS("seats", NONE),
        BAND("band", NONE),
        MIST("mist", NONE),
        MISTY("misty", CODE_MISTY),
        HOUR("hour", NONE),
        SLOW("slow", NONE),
        HASTE("haste", NONE),
        STOP("stop", NONE),
        IF("if", NONE),
        OR("or", NONE),
        AND("and", NONE),
        NOT("not", NONE),
        HEARS("hears", CODE_HEARS),
        GAP("gap", CODE_GAP),
        MET("met", CODE_MET),
        ROUNDS("rounds", CODE_ROUNDS),
        HATS("hats", CODE_HATS);

        private final String text;
        private final int code;

        Word(String text, int code) {
            this.text = text;
            this.code = code;
        }
    }

    /** Stands at one thing of a text; what does not fit is left standing, so that its begin is the first wrong byte. */
    private abstract static class LineReader {
        private static final int END = 0;
        private static final int WORD = 1;
        private static final int NUMBER = 2;
        private static final int SIGN = 3;
        private static final int MOST_DIGITS = 3;
        /** Out of all bounds, as a number of too many digits is. */
        private static final int TOO_LONG = 1000;

        private int[] text = new int[0];
        private int length = 0;
        private int kind = END;
        private int begin = 0;
        private int behind = 0;
        private int value = 0;

        /** Whether a LINE stood here; if not, the reader stands at what is wrong. */
        abstract boolean readLine();

        /** The first wrong byte; NONE. */
        final int readLines(int[] bytes, int size, int most) {
            text = bytes;
            length = Math.min(size, bytes.length);
            behind = 0;
            advance();
            if (kind == END) {
                return NONE;
            }
            for (int line = 0; line < most; line++) {
                if (!readLine()) {
                    return begin;
                }
                if (kind == END) {
                    return NONE;
                }
                if (!takeSign(';')) {
                    return begin;
                }
            }
            return begin;
        }

        final void advance() {
            begin = behind;
            while (begin < length && text[begin] == ' ') {
                begin++;
            }
            behind = begin;
            if (begin >= length) {
                kind = END;
                return;
            }
            value = text[begin];
            if (value >= 'a' && value <= 'z') {
                kind = WORD;
                while (behind < length && text[behind] >= 'a' && text[behind] <= 'z') {
                    behind++;
                }
            } else if (value >= '0' && value <= '9') {
                kind = NUMBER;
                value = 0;
                while (behind < length && text[behind] >= '0' && text[behind] <= '9') {
                    value = behind - begin < MOST_DIGITS ? value * 10 + text[behind] - '0' : TOO_LONG;
                    behind++;
                }
            } else {
                kind = SIGN;
                behind++;
            }
        }

        final boolean isAt(Word word) {
            if (kind != WORD || behind - begin != word.text.length()) {
                return false;
            }
            for (int i = 0; i < word.text.length(); i++) {
                if (text[begin + i] != word.text.charAt(i)) {
                    return false;
                }
            }
            return true;
        }

        final boolean isAtSign(char sign) {
            return kind == SIGN && value == sign;
        }

        final boolean isAtNumber(int number) {
            return kind == NUMBER && value == number;
        }

        final boolean take(Word word) {
            boolean is = isAt(word);
            if (is) {
                advance();
            }
            return is;
        }

        final boolean takeSign(char sign) {
            boolean is = isAtSign(sign);
            if (is) {
                advance();
            }
            return is;
        }

        /** The number; NONE, if none within these bounds stands here. */
        final int takeNumber(int least, int most) {
            if (kind != NUMBER || value < least || value > most) {
                return NONE;
            }
            int number = value;
            advance();
            return number;
        }

        /** What the word that stands here is in a condition; NONE. */
        final int codeHere() {
            for (int i = 0; i < WORDS.length; i++) {
                if (WORDS[i].code != NONE && isAt(WORDS[i])) {
                    return WORDS[i].code;
                }
            }
            return NONE;
        }
    }

    private static final class PromenadeReader extends LineReader {
        /** Where a text is tried, so that of a wrong one nothing stays. */
        private final Scene scene = new Scene();

        boolean readLine() {
            if (isAt(Word.LONG)) {
                return readLong();
            }
            if (isAt(Word.WALKER)) {
                return readWalker();
            }
            if (take(Word.SHUNS)) {
                return readShuns();
            }
            if (isAt(Word.SHELTER)) {
                return readShelter();
            }
            if (take(Word.BAND)) {
                int place = takeNumber(0, scene.yardsRound - 1);
                scene.band = place == NONE ? scene.band : place;
                return place != NONE;
            }
            if (take(Word.MIST)) {
                int mist = takeNumber(0, 100);
                scene.mist = mist == NONE ? scene.mist : mist;
                return mist != NONE;
            }
            if (take(Word.MISTY)) {
                scene.misty = true;
                return true;
            }
            if (take(Word.HOUR)) {
                int hour = takeNumber(0, 999);
                scene.hour = hour == NONE ? scene.hour : hour;
                return hour != NONE;
            }
            return false;
        }

        private boolean readLong() {
            if (scene.walkers > 0 || scene.shelters > 0) {
                return false;
            }
            advance();
            int yards = takeNumber(LEAST_LONG, MOST_LONG);
            if (yards == NONE) {
                return false;
            }
            scene.yardsRound = yards;
            scene.band = Math.min(scene.band, yards - 1);
            return true;
        }

        private boolean readWalker() {
            if (scene.walkers >= MOST_WALKERS) {
                return false;
            }
            advance();
            int place = readNumberAfter(Word.AT, 0, scene.yardsRound - 1);
            int pace = place == NONE ? NONE : readNumberAfter(Word.PACE, 0, MOST_PACE);
            if (pace == NONE) {
                return false;
            }
            scene.addWalker(place, pace);
            if (take(Word.BLACK)) {
                scene.inBlack |= 1 << scene.walkers - 1;
            }
            return true;
        }

        private boolean readShuns() {
            int walker = takeNumber(0, scene.walkers - 1);
            if (walker < 0 || walker >= MOST_WALKERS || isAtNumber(walker)) {
                return false;
            }
            int other = takeNumber(0, scene.walkers - 1);
            if (other == NONE) {
                return false;
            }
            scene.shuns[walker] |= 1 << other;
            return true;
        }

        private boolean readShelter() {
            if (scene.shelters >= MOST_SHELTERS) {
                return false;
            }
            advance();
            int place = readNumberAfter(Word.AT, 0, scene.yardsRound - 1);
            int seats = place == NONE ? NONE : readNumberAfter(Word.SEATS, 1, 3);
            if (seats == NONE) {
                return false;
            }
            scene.stand[scene.shelters] = place;
            scene.seats[scene.shelters] = seats;
            scene.shelters++;
            return true;
        }

        private int readNumberAfter(Word word, int least, int most) {
            return take(word) ? takeNumber(least, most) : NONE;
        }
    }

    private static final class LawReader extends LineReader {
        private final Law law = new Law();

        boolean readLine() {
            int yards = Law.STOP;
            if (!take(Word.STOP)) {
                boolean slow = isAt(Word.SLOW);
                if (!slow && !isAt(Word.HASTE)) {
                    return false;
                }
                advance();
                yards = takeNumber(0, 99);
                if (yards == NONE) {
                    return false;
                }
                yards = slow ? -yards : yards;
            }
            int head = law.size;
            law.emit(yards);
            law.emit(0);
            if (take(Word.IF) && !readAny(0)) {
                return false;
            }
            law.closeLine(head);
            return true;
        }

        /** C, within so many ( and not. */
        private boolean readAny(int depth) {
            for (int alls = 0; alls < MOST_BYTES; alls++) {
                for (int atoms = 0; atoms < MOST_BYTES && (atoms == 0 || take(Word.AND)); atoms++) {
                    if (!readAtom(depth)) {
                        return false;
                    }
                    if (atoms > 0) {
                        law.emit(CODE_AND);
                    }
                }
                if (alls > 0) {
                    law.emit(CODE_OR);
                }
                if (!take(Word.OR)) {
                    return true;
                }
            }
            return false;
        }

        private boolean readAtom(int depth) {
            if (isAt(Word.NOT) || isAtSign('(')) {
                return readDeeper(depth + 1);
            }
            int code = codeHere();
            if (code >= CODE_BLACK) {
                advance();
                law.emit(code);
                return true;
            }
            if (!readSum()) {
                return false;
            }
            boolean less = isAtSign('<');
            if (!less && !isAtSign('>')) {
                return false;
            }
            advance();
            if (!readSum()) {
                return false;
            }
            law.emit(less ? CODE_LESS : CODE_MORE);
            return true;
        }

        private boolean readDeeper(int depth) {
            if (depth > MOST_DEEP) {
                return false;
            }
            if (takeSign('(')) {
                return readAny(depth) && takeSign(')');
            }
            advance();
            if (!readAtom(depth)) {
                return false;
            }
            law.emit(CODE_NOT);
            return true;
        }

        private boolean readSum() {
            for (int parts = 0; parts < MOST_BYTES && (parts == 0 || takeSign('+')); parts++) {
                int code = codeHere();
                if (code != NONE && code < CODE_BLACK) {
                    advance();
                } else {
                    code = takeNumber(0, 999);
                }
                if (code < 0 || code >= CODE_BLACK) {
                    return false;
                }
                law.emit(code);
                if (parts > 0) {
                    law.emit(CODE_PLUS);
                }
            }
            return true;
        }
    }

    /** LINES one behind another: yards or STOP, where the next LINE begins, and what must hold, each joint behind its parts. */
    private static final class Law {
        private static final int STOP = 1000;
        /** More than ( and not 6 deep, with an or, an and and a sum open in each, can need. */
        private static final int MOST_PILED = 32;

        private final int[] codes = new int[MOST_BYTES];
        private final int[] pile = new int[MOST_PILED];
        private int size = 0;
        private int lines = NONE;

        private void become(Law other) {
            System.arraycopy(other.codes, 0, codes, 0, codes.length);
            size = other.size;
            lines = other.lines;
        }

        private void clear() {
            size = 0;
            lines = 0;
        }

        private void emit(int code) {
            if (size < codes.length) {
                codes[size] = code;
                size++;
            }
        }

        private void closeLine(int head) {
            if (head >= 0 && head + 1 < size) {
                codes[head + 1] = size;
                lines++;
            }
        }

        private int strideOf(Scene scene, int walker) {
            if (walker < 0 || walker >= scene.pace.length) {
                return 0;
            }
            int stride = scene.pace[walker];
            int head = 0;
            for (int line = 0; line < lines && head >= 0 && head + 1 < codes.length; line++) {
                int next = codes[head + 1];
                if (holds(head + 2, next, scene, walker)) {
                    if (codes[head] == STOP) {
                        return 0;
                    }
                    stride += codes[head];
                }
                head = next;
            }
            return Math.max(0, Math.min(stride, scene.yardsRound - 1));
        }

        private boolean holds(int from, int to, Scene scene, int walker) {
            int top = 0;
            for (int i = from; i < to && i < codes.length; i++) {
                int code = codes[i];
                if (code < CODE_NOT) {
                    if (top >= pile.length) {
                        return false;
                    }
                    pile[top] = code < CODE_WALKER ? code : scene.figureOf(walker, code);
                    top++;
                } else if (code == CODE_NOT) {
                    if (top < 1) {
                        return false;
                    }
                    pile[top - 1] = 1 - pile[top - 1];
                } else {
                    if (top < 2) {
                        return false;
                    }
                    top--;
                    pile[top - 1] = joined(code, pile[top - 1], pile[top]);
                }
            }
            return top == 0 || pile[0] == 1;
        }

        private static int joined(int code, int a, int b) {
            switch (code) {
                case CODE_AND:
                    return a & b;
                case CODE_OR:
                    return a | b;
                case CODE_LESS:
                    return a < b ? 1 : 0;
                case CODE_MORE:
                    return a > b ? 1 : 0;
                default:
                    return a + b;
            }
        }
    }

    /** THE LOG, a row in one number, so that each remembered scene stays small. */
    private static final class Log {
        private static final int HOUR = 0;
        private static final int WHO = 1;
        private static final int WHOM = 2;
        private static final int PLACE = 3;

        private final int[] rows = new int[MOST_LOG_ROWS];
        private int size = 0;
        private int next = 0;

        private void become(Log other) {
            System.arraycopy(other.rows, 0, rows, 0, rows.length);
            size = other.size;
            next = other.next;
        }

        private void write(int hour, int who, int whom, int place) {
            if (next < 0 || next >= rows.length) {
                next = 0;
            }
            rows[next] = hour << 14 | who << 11 | whom << 8 | place;
            next++;
            size = Math.min(size + 1, rows.length);
        }

        private int read(int ago, int what) {
            if (ago < 0 || ago >= size) {
                return NONE;
            }
            int row = rows[Math.floorMod(next - 1 - ago, MOST_LOG_ROWS)];
            switch (what) {
                case HOUR:
                    return row >> 14;
                case WHO:
                    return row >> 11 & 7;
                case WHOM:
                    return row >> 8 & 7;
                default:
                    return row & 255;
            }
        }
    }

    /** All that an act can change: it stands here so that it can be remembered, kept and played with whole. */
    private static final class Scene {
        private int yardsRound = LONG_AT_FIRST;
        private int band = 0;
        private int hour = 0;
        private int mist = 0;
        private boolean misty = false;
        private int seed = 1;
        private int texts = 0;
        private int walkers = 0;
        private int shelters = 0;
        private int inBlack = 0;
        private final int[] at = new int[MOST_WALKERS];
        private final int[] pace = new int[MOST_WALKERS];
        private final int[] shuns = new int[MOST_WALKERS];
        private final int[] hats = new int[MOST_WALKERS];
        private final int[] rounds = new int[MOST_WALKERS];
        private final int[] met = new int[MOST_WALKERS];
        private final int[] stand = new int[MOST_SHELTERS];
        private final int[] seats = new int[MOST_SHELTERS];
        private final Log log = new Log();

        private void become(Scene other) {
            yardsRound = other.yardsRound;
            band = other.band;
            hour = other.hour;
            mist = other.mist;
            misty = other.misty;
            seed = other.seed;
            texts = other.texts;
            walkers = other.walkers;
            shelters = other.shelters;
            inBlack = other.inBlack;
            System.arraycopy(other.at, 0, at, 0, MOST_WALKERS);
            System.arraycopy(other.pace, 0, pace, 0, MOST_WALKERS);
            System.arraycopy(other.shuns, 0, shuns, 0, MOST_WALKERS);
            System.arraycopy(other.hats, 0, hats, 0, MOST_WALKERS);
            System.arraycopy(other.rounds, 0, rounds, 0, MOST_WALKERS);
            System.arraycopy(other.met, 0, met, 0, MOST_WALKERS);
            System.arraycopy(other.stand, 0, stand, 0, MOST_SHELTERS);
            System.arraycopy(other.seats, 0, seats, 0, MOST_SHELTERS);
            log.become(other.log);
        }

        private void addWalker(int place, int itsPace) {
            if (walkers < 0 || walkers >= MOST_WALKERS) {
                return;
            }
            at[walkers] = place;
            pace[walkers] = itsPace;
            // A place in these rows may have been another one's, whose setting out was undone.
            shuns[walkers] = 0;
            hats[walkers] = 0;
            rounds[walkers] = 0;
            met[walkers] = 0;
            inBlack &= ~(1 << walkers);
            walkers++;
        }

        /** GAP. */
        private int yards(int place, int other) {
            int on = other - place;
            return on < 0 ? on + yardsRound : on;
        }

        private int placeOf(int yardsFromBegin) {
            return yardsRound > 0 ? yardsFromBegin % yardsRound : 0;
        }

        /** An HOUR more but for its mist: how often one came by another one; seen takes down who and whom, as bits. */
        private int goHour(Law law, int still, int[] seen) {
            int times = 0;
            for (int w = 0; w < walkers; w++) {
                int on = w == still ? 0 : law.strideOf(this, w);
                for (int o = 0; o < walkers; o++) {
                    int gap = yards(at[w], at[o]);
                    if ((shuns[w] >> o & 1) == 1 && gap >= 1) {
                        on = Math.min(on, gap - 1);
                    }
                }
                for (int o = 0; o < walkers; o++) {
                    int gap = yards(at[w], at[o]);
                    if (gap >= 1 && gap <= on) {
                        comeBy(w, o, seen);
                        times++;
                    }
                }
                if (at[w] + on >= yardsRound) {
                    rounds[w] = Math.min(rounds[w] + 1, MOST_TOLD);
                }
                at[w] = placeOf(at[w] + on);
            }
            hour = Math.min(hour + 1, LAST_HOUR);
            return times;
        }

        private void comeBy(int walker, int other, int[] seen) {
            met[walker] |= 1 << other;
            met[other] |= 1 << walker;
            hats[walker] = Math.min(hats[walker] + 1, MOST_TOLD);
            hats[other] = Math.min(hats[other] + 1, MOST_TOLD);
            log.write(hour, walker, other, at[other]);
            if (walker < seen.length && other < seen.length) {
                seen[walker] |= 1 << other;
                seen[other] |= 1 << walker;
            }
        }

        private void drawMist() {
            seed = 1103515245 * seed + 12345;
            misty = (seed >>> 16 & 32767) % 100 < mist;
        }

        /** What a code of THE LAW that is no number stands for. */
        private int figureOf(int walker, int code) {
            switch (code) {
                case CODE_WALKER:
                    return walker;
                case CODE_AT:
                    return at[walker];
                case CODE_PACE:
                    return pace[walker];
                case CODE_GAP:
                    return yardsAhead(walker);
                case CODE_MET:
                    return Integer.bitCount(met[walker]);
                case CODE_ROUNDS:
                    return rounds[walker];
                case CODE_HATS:
                    return hats[walker];
                case CODE_BLACK:
                    return inBlack >> walker & 1;
                case CODE_MISTY:
                    return misty ? 1 : 0;
                default:
                    return yards(at[walker], band) < WITHIN_HEARING ? 1 : 0;
            }
        }

        private int justAhead(int walker) {
            int ahead = NONE;
            int least = yardsRound;
            for (int o = 0; o < walkers; o++) {
                int gap = yards(at[walker], at[o]);
                if (o != walker && gap < least) {
                    least = gap;
                    ahead = o;
                }
            }
            return ahead;
        }

        /** GAP to the one just ahead; LONG without one. */
        private int yardsAhead(int walker) {
            int least = yardsRound;
            for (int o = 0; o < walkers; o++) {
                if (o != walker) {
                    least = Math.min(least, yards(at[walker], at[o]));
                }
            }
            return least;
        }

        /** GAP to the next PLACE at which there is one, but for its own; 0 without. */
        private int yardsToNextPlace(int walker) {
            int least = 0;
            for (int o = 0; o < walkers; o++) {
                int gap = yards(at[walker], at[o]);
                if (gap > 0 && (least == 0 || gap < least)) {
                    least = gap;
                }
            }
            return least;
        }

        /** How many are ahead of it in ORDER. */
        private int rankOf(int walker) {
            int own = yards(at[0], at[walker]);
            int rank = 0;
            for (int o = 0; o < walkers; o++) {
                int gap = yards(at[0], at[o]);
                if (gap < own || (gap == own && o < walker)) {
                    rank++;
                }
            }
            return rank;
        }

        private int othersThan(int walker) {
            return (1 << walkers) - 1 & ~(1 << walker);
        }

        private int shunnersOf(int walker) {
            int bits = 0;
            for (int o = 0; o < walkers; o++) {
                bits |= (shuns[o] >> walker & 1) << o;
            }
            return bits;
        }

        private int allHats() {
            int all = 0;
            for (int w = 0; w < walkers; w++) {
                all += hats[w];
            }
            return all;
        }

        private int shareOf(int walker) {
            int all = allHats();
            return all == 0 ? 0 : hats[walker] * 100 / all;
        }

        private int aloneAfter(int walker, int n) {
            return placeOf(at[walker] + n * pace[walker]);
        }

        /** All of a set, and all to whom these call. */
        private int calledFrom(int callers, int e) {
            int called = callers;
            for (int w = 0; w < walkers; w++) {
                for (int o = 0; o < walkers; o++) {
                    if ((callers >> w & 1) == 1 && yards(at[w], at[o]) <= e) {
                        called |= 1 << o;
                    }
                }
            }
            return called;
        }

        private int farthestInBlack(int walker) {
            int most = 0;
            for (int o = 0; o < walkers; o++) {
                if ((inBlack >> o & 1) == 1) {
                    most = Math.max(most, yards(at[walker], at[o]));
                }
            }
            return most;
        }

        private int everyShelter() {
            return (1 << shelters) - 1;
        }

        /** FAR by a set of SHELTERS alone; NONE. */
        private int farOf(int walker, int set) {
            int far = NONE;
            for (int s = 0; s < shelters; s++) {
                int gap = yards(at[walker], stand[s]);
                if ((set >> s & 1) == 1 && (far == NONE || gap < far)) {
                    far = gap;
                }
            }
            return far;
        }

        private int greatestFar() {
            int most = NONE;
            for (int w = 0; w < walkers; w++) {
                most = Math.max(most, farOf(w, everyShelter()));
            }
            return most;
        }

        private boolean nobodyIsFarther(int n, int set) {
            for (int w = 0; w < walkers; w++) {
                int far = farOf(w, set);
                if (far == NONE || far > n) {
                    return false;
                }
            }
            return true;
        }

        /** What one has by its choice and the other one's: 0 the hat is raised, 1 one looks away. */
        private int worthOf(int walker, int own, int its) {
            if (own == 0) {
                return its == 0 ? 2 : -(hats[walker] / 10) - 1;
            }
            if (its == 0) {
                return 1;
            }
            return (inBlack >> walker & 1) == 1 ? 0 : -1;
        }
    }

    /** BACKS: orders are counted by the sets that can be their hindmost ones, not one by one. */
    private static final class Orders {
        private final int[] behind = new int[MOST_WALKERS];
        private final int[] ways = new int[1 << MOST_WALKERS];
        private int walkers = 0;

        private boolean readRows(int[] tape, int bytes, int thereAre) {
            walkers = Math.max(0, Math.min(thereAre, MOST_WALKERS));
            Arrays.fill(behind, 0);
            if (bytes % 2 != 0 || bytes > Math.min(MOST_ROW_BYTES, tape.length)) {
                return false;
            }
            for (int i = 0; i + 1 < bytes; i += 2) {
                int back = tape[i];
                int front = tape[i + 1];
                if (back < 0 || back >= walkers || front < 0 || front >= walkers || back == front) {
                    return false;
                }
                behind[front] |= 1 << back;
            }
            return true;
        }

        private int countAll() {
            Arrays.fill(ways, 0);
            ways[0] = 1;
            for (int set = 1; set < 1 << walkers; set++) {
                for (int w = 0; w < walkers; w++) {
                    int rest = set & ~(1 << w);
                    if (rest != set && (behind[w] & ~rest) == 0) {
                        ways[set] += ways[rest];
                    }
                }
            }
            return ways[(1 << walkers) - 1];
        }

        /** The k-th of the first order; only asked when there is one. */
        private int firstAt(int k) {
            int placed = 0;
            for (int i = 0; i <= k && i < walkers; i++) {
                int next = leastBehind(placed);
                if (i == k || next == NONE) {
                    return next;
                }
                placed |= 1 << next;
            }
            return NONE;
        }

        private int leastBehind(int placed) {
            for (int w = 0; w < walkers; w++) {
                if ((placed >> w & 1) == 0 && (behind[w] & ~placed) == 0) {
                    return w;
                }
            }
            return NONE;
        }

        private int bestPair() {
            int all = countAll();
            int best = NONE;
            int least = all;
            for (int w = 0; w < walkers && all >= 2; w++) {
                for (int o = w + 1; o < walkers; o++) {
                    int before = behind[o];
                    behind[o] |= 1 << w;
                    int part = countAll();
                    behind[o] = before;
                    int greater = Math.max(part, all - part);
                    if (best == NONE || greater < least) {
                        least = greater;
                        best = 8 * w + o;
                    }
                }
            }
            return best;
        }
    }

    /** ROUND. */
    private static final class Lengths {
        private final int[] fits = new int[MOST_LONG + 1];
        private final int[] again = new int[MOST_YARDS_TOLD + 1];
        private int fitting = 0;

        private boolean readRows(int[] tape, int bytes) {
            fitting = 0;
            if (bytes % 2 != 0 || bytes > Math.min(MOST_ROW_BYTES, tape.length)) {
                return false;
            }
            for (int i = 1; i < bytes; i += 2) {
                if (tape[i] != 0 && tape[i] != 1) {
                    return false;
                }
            }
            for (int yards = LEAST_LONG; yards <= MOST_LONG; yards++) {
                fits[yards] = fitsRows(tape, bytes, yards) ? 1 : 0;
                fitting += fits[yards];
            }
            return true;
        }

        private static boolean fitsRows(int[] tape, int bytes, int yards) {
            for (int i = 0; i + 1 < bytes; i += 2) {
                int rest = yards > 0 ? tape[i] % yards : 0;
                if ((rest == 0) != (tape[i + 1] == 1)) {
                    return false;
                }
            }
            return true;
        }

        private int least() {
            for (int yards = LEAST_LONG; yards <= MOST_LONG; yards++) {
                if (fits[yards] == 1) {
                    return yards;
                }
            }
            return NONE;
        }

        private int bestYards() {
            if (fitting < 2) {
                return NONE;
            }
            Arrays.fill(again, 0);
            for (int length = LEAST_LONG; length <= MOST_LONG; length++) {
                for (int yards = length; yards <= MOST_YARDS_TOLD && fits[length] == 1; yards += length) {
                    again[yards]++;
                }
            }
            int best = 1;
            for (int yards = 2; yards <= MOST_YARDS_TOLD; yards++) {
                if (greaterPart(yards) < greaterPart(best)) {
                    best = yards;
                }
            }
            return best;
        }

        private int greaterPart(int yards) {
            return Math.max(again[yards], fitting - again[yards]);
        }
    }

    /** SEATED: seats that are left are a number of two bits for each SHELTER. */
    private static final class Seating {
        private static final int LEFT = 1 << 2 * MOST_SHELTERS;

        /** Of a WALKER and the seats left: what it and all behind it can be worth at best. */
        private final int[] best = new int[(MOST_WALKERS + 1) * LEFT];
        private final int[] shelterOf = new int[MOST_WALKERS];
        private int seatedOnes = 0;

        private void seat(Scene scene) {
            int left = 0;
            for (int s = 0; s < scene.shelters; s++) {
                left |= scene.seats[s] << 2 * s;
            }
            Arrays.fill(best, 0);
            for (int w = scene.walkers - 1; w >= 0; w--) {
                for (int rest = 0; rest <= left; rest++) {
                    best[w * LEFT + rest] = bestOf(scene, w, rest);
                }
            }
            seatedOnes = 0;
            for (int w = 0; w < scene.walkers; w++) {
                int s = firstBest(scene, w, left);
                shelterOf[w] = s;
                if (s != NONE) {
                    left -= 1 << 2 * s;
                    seatedOnes++;
                }
            }
        }

        private int bestOf(Scene scene, int walker, int left) {
            int most = best[(walker + 1) * LEFT + left];
            for (int s = 0; s < scene.shelters; s++) {
                most = Math.max(most, worthIn(scene, walker, s, left));
            }
            return most;
        }

        private int firstBest(Scene scene, int walker, int left) {
            for (int s = 0; s < scene.shelters; s++) {
                if (worthIn(scene, walker, s, left) == best[walker * LEFT + left]) {
                    return s;
                }
            }
            return NONE;
        }

        /** Less than all, if no seat is left there. */
        private int worthIn(Scene scene, int walker, int shelter, int left) {
            if ((left >> 2 * shelter & 3) == 0) {
                return NONE;
            }
            int gap = scene.yards(scene.at[walker], scene.stand[shelter]);
            return ONE_MORE - gap + best[(walker + 1) * LEFT + left - (1 << 2 * shelter)];
        }

        private int countSwaps(Scene scene) {
            int swaps = 0;
            for (int w = 0; w < scene.walkers; w++) {
                for (int o = w + 1; o < scene.walkers; o++) {
                    if (wouldGain(scene, w, o) && wouldGain(scene, o, w)) {
                        swaps++;
                    }
                }
            }
            return swaps;
        }

        private boolean wouldGain(Scene scene, int walker, int other) {
            int own = shelterOf[walker];
            int its = shelterOf[other];
            if (own == NONE || its == NONE) {
                return false;
            }
            int place = scene.at[walker];
            return scene.yards(place, scene.stand[its]) < scene.yards(place, scene.stand[own]);
        }
    }

    /** COUPLES: of each set of WALKERS what pairs within it can be worth at best. */
    private static final class Coupling {
        private final int[] best = new int[1 << MOST_WALKERS];
        private final int[] partnerOf = new int[MOST_WALKERS];
        private int pairs = 0;

        private void couple(Scene scene) {
            int all = (1 << scene.walkers) - 1;
            best[0] = 0;
            for (int set = 1; set <= all; set++) {
                best[set] = bestOf(scene, set);
            }
            pairs = 0;
            Arrays.fill(partnerOf, NONE);
            int rest = all;
            for (int w = 0; w < scene.walkers; w++) {
                if ((rest >> w & 1) == 1) {
                    int other = firstBest(scene, w, rest);
                    rest &= ~(1 << w);
                    if (other != NONE) {
                        rest &= ~(1 << other);
                        partnerOf[w] = other;
                        partnerOf[other] = w;
                        pairs++;
                    }
                }
            }
        }

        private int bestOf(Scene scene, int set) {
            int first = firstOf(set);
            int most = best[set & ~(1 << first)];
            for (int o = first + 1; o < scene.walkers; o++) {
                most = Math.max(most, worthWith(scene, first, o, set));
            }
            return most;
        }

        private static int firstOf(int set) {
            int first = 0;
            while (first < MOST_WALKERS - 1 && (set >> first & 1) == 0) {
                first++;
            }
            return first;
        }

        private int firstBest(Scene scene, int walker, int set) {
            for (int o = walker + 1; o < scene.walkers; o++) {
                if (worthWith(scene, walker, o, set) == best[set]) {
                    return o;
                }
            }
            return NONE;
        }

        /** Less than all, if both cannot be a pair. */
        private int worthWith(Scene scene, int walker, int other, int set) {
            boolean shun = (scene.shuns[walker] >> other & 1) == 1 || (scene.shuns[other] >> walker & 1) == 1;
            if ((set >> other & 1) == 0 || shun) {
                return NONE;
            }
            int there = scene.yards(scene.at[walker], scene.at[other]);
            int back = scene.yards(scene.at[other], scene.at[walker]);
            return ONE_MORE - Math.min(there, back) + best[set & ~(1 << walker) & ~(1 << other)];
        }
    }
}
