import java.util.ArrayList;
import java.util.HashSet;
import java.util.List;
import java.util.NoSuchElementException;
import java.util.Set;
import java.util.function.IntPredicate;
import java.util.function.ToIntFunction;
import java.util.regex.Matcher;
import java.util.regex.Pattern;

/**
 * The document once more, as slowly and plainly as can be: whatever can be tried out is tried out one by one.
 * It shares nothing with the class, so that a slip in one of both shows.
 */
final class Model {
    static final class Walker {
        int at;
        int pace;
        Set<Integer> shuns = new HashSet<>();
        boolean black;
        int hats;
        int rounds;
        Set<Integer> met = new HashSet<>();

        Walker copy() {
            Walker c = new Walker();
            c.at = at;
            c.pace = pace;
            c.shuns = new HashSet<>(shuns);
            c.black = black;
            c.hats = hats;
            c.rounds = rounds;
            c.met = new HashSet<>(met);
            return c;
        }
    }

    interface Truth {
        boolean of(All all, int walker);
    }

    interface Number {
        int of(All all, int walker);
    }

    record LawLine(String kind, int n, Truth when) {
    }

    static final class All {
        int longIs = 100;
        List<Walker> walkers = new ArrayList<>();
        List<int[]> shelters = new ArrayList<>();
        int band;
        int hour;
        int mist;
        boolean misty;
        int seed = 1;
        int texts;
        List<LawLine> law;
        List<int[]> log = new ArrayList<>();

        All copy() {
            All c = new All();
            c.longIs = longIs;
            for (Walker w : walkers) {
                c.walkers.add(w.copy());
            }
            for (int[] s : shelters) {
                c.shelters.add(s.clone());
            }
            c.band = band;
            c.hour = hour;
            c.mist = mist;
            c.misty = misty;
            c.seed = seed;
            c.texts = texts;
            c.law = law;
            c.log = new ArrayList<>(log);
            return c;
        }

        int gap(int from, int to) {
            return Math.floorMod(to - from, longIs);
        }

        int gapOf(int i, int j) {
            return gap(walkers.get(i).at, walkers.get(j).at);
        }

        int ahead(int i) {
            int best = -1;
            for (int j = 0; j < walkers.size(); j++) {
                if (j != i && (best < 0 || gapOf(i, j) < gapOf(i, best))) {
                    best = j;
                }
            }
            return best;
        }

        int stride(int i) {
            int sum = walkers.get(i).pace;
            boolean stop = false;
            if (law != null) {
                for (LawLine l : law) {
                    if (l.when.of(this, i)) {
                        stop |= l.kind.equals("stop");
                        sum += l.kind.equals("haste") ? l.n : l.kind.equals("slow") ? -l.n : 0;
                    }
                }
            }
            return stop ? 0 : Math.max(0, Math.min(longIs - 1, sum));
        }

        /** Who came by whom, in an HOUR without (b). */
        List<int[]> walk(int still) {
            List<int[]> rows = new ArrayList<>();
            for (int i = 0; i < walkers.size(); i++) {
                Walker w = walkers.get(i);
                int go = i == still ? 0 : stride(i);
                for (int j : w.shuns) {
                    if (gapOf(i, j) > 0) {
                        go = Math.min(go, gapOf(i, j) - 1);
                    }
                }
                for (int j = 0; j < walkers.size(); j++) {
                    if (j != i && gapOf(i, j) >= 1 && gapOf(i, j) <= go) {
                        Walker o = walkers.get(j);
                        w.met.add(j);
                        o.met.add(i);
                        w.hats = Math.min(999, w.hats + 1);
                        o.hats = Math.min(999, o.hats + 1);
                        rows.add(new int[] {hour, i, j, o.at});
                    }
                }
                for (int step = 0; step < go; step++) {
                    w.at++;
                    if (w.at == longIs) {
                        w.at = 0;
                        w.rounds = Math.min(999, w.rounds + 1);
                    }
                }
            }
            log.addAll(rows);
            while (log.size() > 60) {
                log.remove(0);
            }
            hour = Math.min(9999, hour + 1);
            return rows;
        }

        void weather() {
            seed = seed * 1103515245 + 12345;
            misty = ((seed & 0x7fffffff) >> 16) % 100 < mist;
        }

        int hats() {
            return walkers.stream().mapToInt(w -> w.hats).sum();
        }

        int far(int i, int set) {
            int best = -1;
            for (int s = 0; s < shelters.size(); s++) {
                int g = gap(walkers.get(i).at, shelters.get(s)[0]);
                if ((set & 1 << s) != 0 && (best < 0 || g < best)) {
                    best = g;
                }
            }
            return best;
        }
    }

    All all = new All();
    List<Integer> tape = new ArrayList<>();
    int fault = -1;
    List<All> past = new ArrayList<>();
    All image;

    // ---- reading

    record Token(String text, int begin) {
    }

    private List<Token> tokens;
    private int next;
    private int textLength;

    static final class Wrong extends RuntimeException {
        static final long serialVersionUID = 1;
        final int at;

        Wrong(int at) {
            this.at = at;
        }
    }

    private String useText() {
        StringBuilder b = new StringBuilder();
        tape.forEach(x -> b.append((char) (int) x));
        tape.clear();
        return b.toString();
    }

    private void scan(String text) {
        tokens = new ArrayList<>();
        next = 0;
        textLength = text.length();
        Matcher m = Pattern.compile("[a-z]+|[0-9]+|[^ ]", Pattern.DOTALL).matcher(text);
        while (m.find()) {
            tokens.add(new Token(m.group(), m.start()));
        }
    }

    private String peek() {
        return next < tokens.size() ? tokens.get(next).text : "";
    }

    private Wrong wrong() {
        return new Wrong(next < tokens.size() ? tokens.get(next).begin : textLength);
    }

    private void want(String text) {
        if (!peek().equals(text)) {
            throw wrong();
        }
        next++;
    }

    private boolean maybe(String text) {
        boolean is = peek().equals(text);
        next += is ? 1 : 0;
        return is;
    }

    private int number(IntPredicate fits) {
        if (!peek().matches("[0-9]{1,3}") || !fits.test(Integer.parseInt(peek()))) {
            throw wrong();
        }
        return Integer.parseInt(tokens.get(next++).text);
    }

    private int number(int least, int most) {
        return number(n -> n >= least && n <= most);
    }

    private int lines(int most, Runnable line) {
        int n = 0;
        if (tokens.isEmpty()) {
            return 0;
        }
        do {
            if (n == most) {
                throw wrong();
            }
            line.run();
            n++;
        } while (maybe(";"));
        if (next < tokens.size()) {
            throw wrong();
        }
        return n;
    }

    int promenade() {
        scan(useText());
        All before = all.copy();
        try {
            lines(14, this::promenadeLine);
            fault = -1;
        } catch (Wrong w) {
            all = before;
            fault = w.at;
            throw new IllegalArgumentException();
        }
        if (before.texts == 12) {
            all = before;
            throw new UnsupportedOperationException();
        }
        past.clear();
        return ++all.texts;
    }

    private void promenadeLine() {
        String word = peek();
        boolean tooMany = word.equals("long") && all.walkers.size() + all.shelters.size() > 0
            || word.equals("walker") && all.walkers.size() == 7
            || word.equals("shelter") && all.shelters.size() == 4;
        if (tooMany) {
            throw wrong();
        }
        next++;
        switch (word) {
            case "long" -> {
                all.longIs = number(10, 200);
                if (all.band >= all.longIs) {
                    all.band = all.longIs - 1;
                }
            }
            case "walker" -> {
                Walker w = new Walker();
                want("at");
                w.at = number(0, all.longIs - 1);
                want("pace");
                w.pace = number(0, 99);
                w.black = maybe("black");
                all.walkers.add(w);
            }
            case "shuns" -> {
                int a = number(0, all.walkers.size() - 1);
                all.walkers.get(a).shuns.add(number(n -> n < all.walkers.size() && n != a));
            }
            case "shelter" -> {
                want("at");
                int at = number(0, all.longIs - 1);
                want("seats");
                all.shelters.add(new int[] {at, number(1, 3)});
            }
            case "band" -> all.band = number(0, all.longIs - 1);
            case "mist" -> all.mist = number(0, 100);
            case "misty" -> all.misty = true;
            case "hour" -> all.hour = number(0, 999);
            default -> {
                next--;
                throw wrong();
            }
        }
    }

    int law() {
        scan(useText());
        List<LawLine> read = new ArrayList<>();
        try {
            lines(12, () -> read.add(lawLine()));
            fault = -1;
        } catch (Wrong w) {
            fault = w.at;
            throw new IllegalArgumentException();
        }
        all.law = read;
        past.clear();
        return read.size();
    }

    private LawLine lawLine() {
        String kind = peek();
        if (!List.of("slow", "haste", "stop").contains(kind)) {
            throw wrong();
        }
        next++;
        int n = kind.equals("stop") ? 0 : number(0, 99);
        Truth when = maybe("if") ? either(0) : (a, w) -> true;
        return new LawLine(kind, n, when);
    }

    private Truth either(int deep) {
        Truth left = every(deep);
        while (maybe("or")) {
            Truth a = left;
            Truth b = every(deep);
            left = (x, w) -> a.of(x, w) || b.of(x, w);
        }
        return left;
    }

    private Truth every(int deep) {
        Truth left = atom(deep);
        while (maybe("and")) {
            Truth a = left;
            Truth b = atom(deep);
            left = (x, w) -> a.of(x, w) && b.of(x, w);
        }
        return left;
    }

    private Truth atom(int deep) {
        if (deep == 6 && (peek().equals("not") || peek().equals("("))) {
            throw wrong();
        }
        if (maybe("not")) {
            Truth a = atom(deep + 1);
            return (x, w) -> !a.of(x, w);
        }
        if (maybe("(")) {
            Truth a = either(deep + 1);
            want(")");
            return a;
        }
        if (maybe("black")) {
            return (x, w) -> x.walkers.get(w).black;
        }
        if (maybe("misty")) {
            return (x, w) -> x.misty;
        }
        if (maybe("hears")) {
            return (x, w) -> x.gap(x.walkers.get(w).at, x.band) < 10;
        }
        Number a = sum();
        if (maybe("<")) {
            Number b = sum();
            return (x, w) -> a.of(x, w) < b.of(x, w);
        }
        want(">");
        Number b = sum();
        return (x, w) -> a.of(x, w) > b.of(x, w);
    }

    private Number sum() {
        List<Number> parts = new ArrayList<>();
        do {
            parts.add(part());
        } while (maybe("+"));
        return (x, w) -> parts.stream().mapToInt(p -> p.of(x, w)).sum();
    }

    private Number part() {
        if (peek().matches("[0-9]+")) {
            int n = number(0, 999);
            return (x, w) -> n;
        }
        String word = peek();
        next++;
        switch (word) {
            case "walker":
                return (x, w) -> w;
            case "at":
                return (x, w) -> x.walkers.get(w).at;
            case "pace":
                return (x, w) -> x.walkers.get(w).pace;
            case "gap":
                return (x, w) -> x.walkers.size() == 1 ? x.longIs : x.gapOf(w, x.ahead(w));
            case "met":
                return (x, w) -> x.walkers.get(w).met.size();
            case "rounds":
                return (x, w) -> x.walkers.get(w).rounds;
            case "hats":
                return (x, w) -> x.walkers.get(w).hats;
            default:
                next--;
                throw wrong();
        }
    }

    // ---- checks

    void walkerIs(int... ws) {
        for (int w : ws) {
            if (w < 0 || w >= all.walkers.size()) {
                throw new IndexOutOfBoundsException();
            }
        }
    }

    void placeIs(int... ps) {
        for (int p : ps) {
            if (p < 0 || p >= all.longIs) {
                throw new IndexOutOfBoundsException();
            }
        }
    }

    void shelterIs(int s) {
        if (s < 0 || s >= all.shelters.size()) {
            throw new IndexOutOfBoundsException();
        }
    }

    static void argument(boolean right) {
        if (!right) {
            throw new IllegalArgumentException();
        }
    }

    void twoAre(int a, int b) {
        walkerIs(a, b);
        argument(a != b);
    }

    // ---- the calls

    int feed(int... five) {
        if (tape.size() + 20 > 400) {
            return -1;
        }
        for (int x : five) {
            for (int i = 0; i < 4; i++) {
                tape.add(x >>> 24);
                x <<= 8;
            }
        }
        return tape.size();
    }

    boolean end(int n) {
        if (n < 0 || n > tape.size()) {
            return false;
        }
        tape = new ArrayList<>(tape.subList(0, n));
        return true;
    }

    private static int bits(Set<Integer> set) {
        return set.stream().mapToInt(i -> 1 << i).sum();
    }

    int walker(int w, int what) {
        walkerIs(w);
        Walker x = all.walkers.get(w);
        int n = all.walkers.size();
        switch (what) {
            case 0:
                return x.at;
            case 1:
                return x.pace;
            case 2:
                return bits(x.shuns);
            case 3:
                return x.black ? 1 : 0;
            case 4:
                return x.hats;
            case 5:
                return x.rounds;
            case 6:
                return bits(x.met);
            case 7:
                return all.stride(w);
            case 8:
                return all.ahead(w);
            case 9:
                return all.ahead(w) < 0 ? -1 : all.gapOf(w, all.ahead(w));
            case 10:
                return all.far(w, 15);
            case 11:
                return ((1 << n) - 1) - (1 << w) - circle(w, 200);
            case 12: {
                int b = 0;
                for (int j = 0; j < n; j++) {
                    b += all.walkers.get(j).shuns.contains(w) ? 1 << j : 0;
                }
                return b;
            }
            case 13:
                return all.hats() == 0 ? 0 : 100 * x.hats / all.hats();
            default:
                throw new NoSuchElementException();
        }
    }

    int shelter(int s, int what) {
        shelterIs(s);
        if (what < 0 || what > 2) {
            throw new NoSuchElementException();
        }
        if (what < 2) {
            return all.shelters.get(s)[what];
        }
        if (all.walkers.isEmpty()) {
            return all.shelters.get(s)[0];
        }
        int best = -1;
        int least = 1000;
        for (int p = 0; p < all.longIs; p++) {
            All c = all.copy();
            c.shelters.get(s)[0] = p;
            int most = 0;
            for (int w = 0; w < c.walkers.size(); w++) {
                most = Math.max(most, c.far(w, 15));
            }
            if (most < least) {
                least = most;
                best = p;
            }
        }
        return best;
    }

    int gap(int a, int b) {
        placeIs(a, b);
        return all.gap(a, b);
    }

    private void act() {
        past.add(all.copy());
        if (past.size() > 12) {
            past.remove(0);
        }
    }

    int hours(int n) {
        argument(n >= 1 && n <= 200);
        act();
        int times = 0;
        for (int i = 0; i < n; i++) {
            times += all.walk(-1).size();
            all.weather();
        }
        return times;
    }

    int out(int pace) {
        argument(pace >= 0 && pace <= 99);
        if (all.walkers.size() == 7) {
            throw new IllegalStateException();
        }
        act();
        Walker w = new Walker();
        w.pace = pace;
        all.walkers.add(w);
        return all.walkers.size() - 1;
    }

    int pace(int w, int n) {
        walkerIs(w);
        argument(n >= 0 && n <= 99);
        act();
        int was = all.walkers.get(w).pace;
        all.walkers.get(w).pace = n;
        return was;
    }

    boolean shun(int w, int o, boolean is) {
        twoAre(w, o);
        act();
        Set<Integer> set = all.walkers.get(w).shuns;
        return is ? set.add(o) : set.remove(o);
    }

    boolean mourn(int w, boolean is) {
        walkerIs(w);
        act();
        boolean was = all.walkers.get(w).black;
        all.walkers.get(w).black = is;
        return was != is;
    }

    int move(int s, int place) {
        shelterIs(s);
        placeIs(place);
        act();
        int was = all.shelters.get(s)[0];
        all.shelters.get(s)[0] = place;
        return was;
    }

    int lad(int w) {
        walkerIs(w);
        act();
        Walker x = all.walkers.get(w);
        x.pace += 10;
        if (x.pace > 99) {
            x.pace = 99;
        }
        return x.pace;
    }

    int order(int k) {
        List<Integer> row = new ArrayList<>();
        for (int i = 0; i < all.walkers.size(); i++) {
            row.add(i);
        }
        row.sort((a, b) -> {
            int d = all.gapOf(0, a) - all.gapOf(0, b);
            return d != 0 ? d : a - b;
        });
        return k >= 0 && k < row.size() ? row.get(k) : -1;
    }

    private All in(int n) {
        All c = all.copy();
        for (int i = 0; i < n; i++) {
            c.walk(-1);
        }
        return c;
    }

    int where(int w, int n) {
        walkerIs(w);
        argument(n >= 0 && n <= 200);
        return in(n).walkers.get(w).at;
    }

    int laps(int w, int n) {
        walkerIs(w);
        argument(n >= 0 && n <= 200);
        return in(n).walkers.get(w).rounds;
    }

    int up(int w, int o) {
        twoAre(w, o);
        All c = all.copy();
        for (int n = 1; n <= 200; n++) {
            for (int[] row : c.walk(-1)) {
                if (row[1] == w && row[2] == o || row[1] == o && row[2] == w) {
                    return n;
                }
            }
        }
        return -1;
    }

    private int circle(int w, int n, int still) {
        All c = all.copy();
        int set = 0;
        for (int i = 0; i < n; i++) {
            for (int[] row : c.walk(i < 6 && (still >> i & 1) == 1 ? w : -1)) {
                set |= row[1] == w ? 1 << row[2] : row[2] == w ? 1 << row[1] : 0;
            }
        }
        return set;
    }

    int circle(int w, int n) {
        walkerIs(w);
        argument(n >= 0 && n <= 200);
        return circle(w, n, 0);
    }

    int alone(int w, int place) {
        walkerIs(w);
        placeIs(place);
        for (int n = 0; n <= 200; n++) {
            if ((all.walkers.get(w).at + n * all.walkers.get(w).pace) % all.longIs == place) {
                return n;
            }
        }
        return -1;
    }

    int both(int w, int o) {
        twoAre(w, o);
        Walker a = all.walkers.get(w);
        Walker b = all.walkers.get(o);
        for (int n = 0; n <= 200; n++) {
            if ((a.at + n * a.pace - b.at - n * b.pace) % all.longIs == 0) {
                return n;
            }
        }
        return -1;
    }

    int period(int w) {
        walkerIs(w);
        int a = all.longIs;
        int b = all.walkers.get(w).pace;
        while (b > 0) {
            int r = a % b;
            a = b;
            b = r;
        }
        return all.longIs / a;
    }

    int stands(int w, int set, int n) {
        walkerIs(w);
        argument(n >= 1 && n <= 6);
        int want = set & (1 << all.walkers.size()) - 1 & ~(1 << w);
        int best = -1;
        for (int m = (1 << n) - 1; m >= 0; m--) {
            if (circle(w, n, m) == want && (best < 0 || Integer.bitCount(m) <= Integer.bitCount(best))) {
                best = m;
            }
        }
        return best;
    }

    private List<int[]> rows(IntPredicate first, IntPredicate second, boolean unlike) {
        List<Integer> t = tape;
        tape = new ArrayList<>();
        argument(t.size() <= 40 && t.size() % 2 == 0);
        List<int[]> rows = new ArrayList<>();
        for (int i = 0; i < t.size(); i += 2) {
            int[] row = {t.get(i), t.get(i + 1)};
            argument(first.test(row[0]) && second.test(row[1]) && !(unlike && row[0] == row[1]));
            rows.add(row);
        }
        return rows;
    }

    private void permute(List<Integer> sofar, List<int[]> rows, List<List<Integer>> into) {
        int n = all.walkers.size();
        if (sofar.size() == n) {
            for (int[] r : rows) {
                if (sofar.indexOf(r[0]) > sofar.indexOf(r[1])) {
                    return;
                }
            }
            into.add(new ArrayList<>(sofar));
            return;
        }
        for (int i = 0; i < n; i++) {
            if (!sofar.contains(i)) {
                sofar.add(i);
                permute(sofar, rows, into);
                sofar.remove(sofar.size() - 1);
            }
        }
    }

    private List<List<Integer>> fitting() {
        IntPredicate is = i -> i < all.walkers.size();
        List<int[]> rows = rows(is, is, true);
        List<List<Integer>> into = new ArrayList<>();
        permute(new ArrayList<>(), rows, into);
        return into;
    }

    int backs(int k) {
        List<List<Integer>> fit = fitting();
        if (k == -1) {
            return fit.size();
        }
        return fit.isEmpty() || k < 0 || k >= all.walkers.size() ? -1 : fit.get(0).get(k);
    }

    int ask() {
        List<List<Integer>> fit = fitting();
        if (fit.size() < 2) {
            return -1;
        }
        int best = -1;
        int least = 10000;
        for (int i = 0; i < all.walkers.size(); i++) {
            for (int j = i + 1; j < all.walkers.size(); j++) {
                int a = i;
                int b = j;
                int part = (int) fit.stream().filter(o -> o.indexOf(a) < o.indexOf(b)).count();
                int greater = Math.max(part, fit.size() - part);
                if (greater < least) {
                    least = greater;
                    best = 8 * i + j;
                }
            }
        }
        return best;
    }

    private List<Integer> lengths() {
        List<int[]> rows = rows(i -> true, i -> i < 2, false);
        List<Integer> fit = new ArrayList<>();
        for (int l = 10; l <= 200; l++) {
            int length = l;
            if (rows.stream().allMatch(r -> (r[0] % length == 0 ? 1 : 0) == r[1])) {
                fit.add(l);
            }
        }
        return fit;
    }

    int round(boolean least) {
        List<Integer> fit = lengths();
        return !least ? fit.size() : fit.isEmpty() ? -1 : fit.get(0);
    }

    int tries() {
        List<Integer> fit = lengths();
        int best = -1;
        int least = 1000;
        for (int y = 1; y <= 255 && fit.size() > 1; y++) {
            int yards = y;
            int part = (int) fit.stream().filter(l -> yards % l == 0).count();
            if (Math.max(part, fit.size() - part) < least) {
                least = Math.max(part, fit.size() - part);
                best = y;
            }
        }
        return best;
    }

    /** The fewest calls from one to each, by letting each known way be made longer until nothing is shorter. */
    private int[] callsFrom(int w, int e) {
        int n = all.walkers.size();
        int[] d = new int[n];
        java.util.Arrays.fill(d, 1000);
        d[w] = 0;
        for (int round = 0; round < n; round++) {
            for (int i = 0; i < n; i++) {
                for (int j = 0; j < n; j++) {
                    if (i != j && all.gapOf(i, j) <= e) {
                        d[j] = Math.min(d[j], d[i] + 1);
                    }
                }
            }
        }
        return d;
    }

    int calls(int w, int o, int e) {
        walkerIs(w, o);
        argument(e >= 1 && e <= 200);
        int d = callsFrom(w, e)[o];
        return d >= 1000 ? -1 : d;
    }

    int told(int w, int e) {
        walkerIs(w);
        argument(e >= 1 && e <= 200);
        int[] d = callsFrom(w, e);
        int set = 0;
        for (int i = 0; i < d.length; i++) {
            set |= d[i] < 1000 ? 1 << i : 0;
        }
        return set;
    }

    int ear() {
        int n = all.walkers.size();
        for (int e = 1; e <= 200 && n > 0; e++) {
            boolean each = true;
            for (int w = 0; w < n && each; w++) {
                each = told(w, e) == (1 << n) - 1;
            }
            if (each) {
                return e;
            }
        }
        return -1;
    }

    private int first(ToIntFunction<Integer> value) {
        int best = -1;
        for (int i = 0; i < all.walkers.size(); i++) {
            if (best < 0 || value.applyAsInt(i) > value.applyAsInt(best)) {
                best = i;
            }
        }
        return best;
    }

    int farthest() {
        return all.shelters.isEmpty() ? -1 : first(w -> all.far(w, 15));
    }

    int few(int n) {
        argument(n >= 0 && n <= 199);
        int best = -1;
        for (int set = (1 << all.shelters.size()) - 1; set >= 0; set--) {
            boolean fits = true;
            for (int w = 0; w < all.walkers.size(); w++) {
                int far = all.far(w, set);
                fits &= far >= 0 && far <= n;
            }
            if (fits && (best < 0 || Integer.bitCount(set) <= Integer.bitCount(best))) {
                best = set;
            }
        }
        return best;
    }

    private int[] bestWay;
    private int bestSeated;
    private int bestGaps;

    private void seatFrom(int w, int[] way, int seated, int gaps) {
        int n = all.walkers.size();
        if (w == n) {
            if (bestWay == null || seated > bestSeated || seated == bestSeated && gaps < bestGaps) {
                bestWay = way.clone();
                bestSeated = seated;
                bestGaps = gaps;
            }
            return;
        }
        for (int s = 0; s < all.shelters.size(); s++) {
            int used = 0;
            for (int i = 0; i < w; i++) {
                used += way[i] == s ? 1 : 0;
            }
            if (used < all.shelters.get(s)[1]) {
                way[w] = s;
                seatFrom(w + 1, way, seated + 1, gaps + all.gap(all.walkers.get(w).at, all.shelters.get(s)[0]));
            }
        }
        way[w] = -1;
        seatFrom(w + 1, way, seated, gaps);
    }

    private void seat() {
        bestWay = null;
        seatFrom(0, new int[all.walkers.size()], 0, 0);
    }

    int seated(int w) {
        if (w != -1) {
            walkerIs(w);
        }
        seat();
        return w == -1 ? bestSeated : bestWay[w];
    }

    int swaps() {
        seat();
        int n = 0;
        for (int i = 0; i < bestWay.length; i++) {
            for (int j = i + 1; j < bestWay.length; j++) {
                if (bestWay[i] >= 0 && bestWay[j] >= 0) {
                    n += gains(i, bestWay[j]) && gains(j, bestWay[i]) ? 1 : 0;
                }
            }
        }
        return n;
    }

    private boolean gains(int w, int shelter) {
        int at = all.walkers.get(w).at;
        return all.gap(at, all.shelters.get(shelter)[0]) < all.gap(at, all.shelters.get(bestWay[w])[0]);
    }

    int chase(int g, int t) {
        argument(g >= 1 && g <= 40);
        argument(t >= 0 && t <= 20);
        // Fewest turns he needs with so many turns left, by gap and by whether he may go 4.
        int[][] had = new int[200][2];
        for (int[] row : had) {
            java.util.Arrays.fill(row, 1000);
        }
        for (int turn = 0; turn < t; turn++) {
            int[][] now = new int[200][2];
            for (int gap = 1; gap < 190; gap++) {
                for (int may = 0; may < 2; may++) {
                    int worst = 0;
                    for (int she = 1; she <= 3; she += 2) {
                        int two = gap + she - 2 <= 0 ? 1 : 1 + had[gap + she - 2][1];
                        int four = may == 0 ? 1000 : gap + she - 4 <= 0 ? 1 : 1 + had[gap + she - 4][0];
                        worst = Math.max(worst, Math.min(two, four));
                    }
                    now[gap][may] = Math.min(1000, worst);
                }
            }
            for (int gap = 190; gap < 200; gap++) {
                now[gap] = new int[] {1000, 1000};
            }
            had = now;
        }
        return had[g][1] >= 1000 ? -1 : had[g][1];
    }

    private int[] bestPairs;
    private int bestPairCount;

    private void pairFrom(int w, int[] with, int pairs, int gaps) {
        int n = all.walkers.size();
        if (w == n) {
            if (bestPairs == null || pairs > bestPairCount || pairs == bestPairCount && gaps < bestGaps) {
                bestPairs = with.clone();
                bestPairCount = pairs;
                bestGaps = gaps;
            }
            return;
        }
        if (with[w] >= 0) {
            pairFrom(w + 1, with, pairs, gaps);
            return;
        }
        for (int o = w + 1; o < n; o++) {
            boolean shun = all.walkers.get(w).shuns.contains(o) || all.walkers.get(o).shuns.contains(w);
            if (with[o] < 0 && !shun) {
                with[w] = o;
                with[o] = w;
                pairFrom(w + 1, with, pairs + 1, gaps + Math.min(all.gapOf(w, o), all.gapOf(o, w)));
                with[w] = -1;
                with[o] = -1;
            }
        }
        pairFrom(w + 1, with, pairs, gaps);
    }

    int couples(int w) {
        if (w != -1) {
            walkerIs(w);
        }
        bestPairs = null;
        int[] with = new int[all.walkers.size()];
        java.util.Arrays.fill(with, -1);
        pairFrom(0, with, 0, 0);
        return w == -1 ? bestPairCount : bestPairs[w];
    }

    private int worth(int w, int own, int its) {
        Walker x = all.walkers.get(w);
        int[][] table = {{2, 0 - x.hats / 10 - 1}, {1, x.black ? 0 : -1}};
        return table[own][its];
    }

    int rests(int w, int o) {
        twoAre(w, o);
        int set = 0;
        for (int c = 0; c < 4; c++) {
            boolean leaves = worth(w, 1 - c / 2, c % 2) > worth(w, c / 2, c % 2);
            boolean otherLeaves = worth(o, 1 - c % 2, c / 2) > worth(o, c % 2, c / 2);
            set |= leaves || otherLeaves ? 0 : 1 << c;
        }
        return set;
    }

    int odds(int n, int k) {
        argument(n >= 0 && n <= 5 && k >= 0 && k <= 5);
        long sum = 0;
        long whole = 1;
        for (int i = 0; i < n; i++) {
            whole *= 100;
        }
        for (int m = 0; m < 1 << n; m++) {
            long one = 1;
            for (int i = 0; i < n; i++) {
                one *= (m >> i & 1) == 1 ? all.mist : 100 - all.mist;
            }
            sum += Integer.bitCount(m) >= k ? one : 0;
        }
        return (int) (sum * 10000 / whole);
    }

    int black() {
        int set = 0;
        for (int w = 0; w < all.walkers.size(); w++) {
            set |= all.walkers.get(w).black ? 1 << w : 0;
        }
        return set;
    }

    int stretch() {
        for (int s = 0; s < all.longIs; s++) {
            for (int w = 0; w < all.walkers.size(); w++) {
                boolean holds = all.walkers.get(w).black;
                for (int o = 0; o < all.walkers.size(); o++) {
                    holds &= !all.walkers.get(o).black || all.gapOf(w, o) <= s;
                }
                if (holds) {
                    return s;
                }
            }
        }
        return 0;
    }

    int fastest(boolean most) {
        return first(w -> most ? all.stride(w) : -all.stride(w));
    }

    int popular() {
        return first(w -> all.walkers.get(w).met.size());
    }

    int twins() {
        int n = 0;
        for (Walker a : all.walkers) {
            for (Walker b : all.walkers) {
                n += a != b && a.at == b.at && a.pace == b.pace ? 1 : 0;
            }
        }
        return n / 2;
    }

    int bunch(int e) {
        argument(e >= 0 && e <= 199);
        int most = 0;
        for (int w = 0; w < all.walkers.size(); w++) {
            int n = 0;
            for (int o = 0; o < all.walkers.size(); o++) {
                n += all.gapOf(w, o) <= e ? 1 : 0;
            }
            most = Math.max(most, n);
        }
        return most;
    }

    int trial(int n, boolean misty) {
        argument(n >= 0 && n <= 200);
        All c = all.copy();
        int hours = 0;
        for (int i = 0; i < n; i++) {
            c.walk(-1);
            c.weather();
            hours += c.misty ? 1 : 0;
        }
        return misty ? hours : c.hats();
    }

    int span(int n, boolean most) {
        argument(n >= 0 && n <= 200);
        int was = all.seed;
        int best = most ? -1 : 100000;
        for (int seed = 1; seed <= 6; seed++) {
            all.seed = seed;
            int hats = trial(n, false);
            best = most ? Math.max(best, hats) : Math.min(best, hats);
        }
        all.seed = was;
        return best;
    }

    int led(int w, boolean hour) {
        walkerIs(w);
        int n = 0;
        int latest = -1;
        for (int[] row : all.log) {
            if (row[1] == w) {
                n++;
                latest = row[0];
            }
        }
        return hour ? latest : n;
    }

    int log(int ago, int what) {
        if (what < 0 || what > 3) {
            throw new NoSuchElementException();
        }
        return ago < 0 || ago >= all.log.size() ? -1 : all.log.get(all.log.size() - 1 - ago)[what];
    }

    int seed(int n) {
        int was = all.seed;
        all.seed = n;
        return was;
    }

    boolean undo() {
        if (past.isEmpty()) {
            return false;
        }
        all = past.remove(past.size() - 1);
        return true;
    }

    void image() {
        image = all.copy();
    }

    boolean back() {
        if (image == null) {
            return false;
        }
        all = image.copy();
        past.clear();
        return true;
    }

    int count(int what) {
        switch (what) {
            case 0:
                return all.walkers.size();
            case 1:
                return all.shelters.size();
            case 2:
                return all.texts;
            case 3:
                return all.law == null ? -1 : all.law.size();
            case 4:
                return all.longIs;
            case 5:
                return all.band;
            case 6:
                return all.hour;
            case 7:
                return all.misty ? 1 : 0;
            case 8:
                return all.hats();
            case 9:
                return all.log.size();
            case 10:
                return past.size();
            default:
                return -1;
        }
    }
}
