import java.nio.charset.StandardCharsets;
import java.util.ArrayList;
import java.util.List;
import java.util.Random;

/** Long runs of calls, told by fixed seeds, on the class and on the model of it: each answer must be alike. */
public final class ModelTest {
    private static final int RUNS = 400;
    private static final int CALLS = 150;

    private final Random random;
    private final PromenadeRing ring = new PromenadeRing();
    private final Model model = new Model();
    private final List<String> done = new ArrayList<>();
    private boolean right = true;

    private ModelTest(int seed) {
        random = new Random(seed);
    }

    public static void main(String[] args) {
        int runs = args.length > 0 ? Integer.parseInt(args[0]) : RUNS;
        int first = args.length > 1 ? Integer.parseInt(args[1]) : 1;
        for (int seed = first; seed < first + runs; seed++) {
            ModelTest test = new ModelTest(seed);
            if (!test.run()) {
                System.out.println("the run of seed " + seed + ":");
                test.done.forEach(System.out::println);
                Check.due("run of seed " + seed, true, false);
                break;
            }
        }
        Check.due("runs were made", true, runs > 0);
        Check.end("ModelTest");
    }

    private boolean run() {
        if (random.nextInt(3) == 0) {
            tell(crowd());
        }
        for (int i = random.nextInt(16) == 0 ? 13 : 0; i > 0 && right; i--) {
            tell("hour " + i);
        }
        for (int i = random.nextInt(4); i > 0 && right; i--) {
            tellPromenade();
        }
        if (random.nextBoolean()) {
            tellLaw();
        }
        for (int i = 0; i < CALLS && right; i++) {
            int kind = random.nextInt(12);
            if (kind == 0) {
                tellText();
            } else if (kind < 4) {
                act();
            } else {
                ask();
            }
        }
        return right;
    }

    private void same(String what, Check.Call of, Check.Call due) {
        if (!right) {
            return;
        }
        String got = Check.outcome(of);
        String want = Check.outcome(due);
        done.add(what + " -> " + got);
        if (!got.equals(want)) {
            done.add("due is " + want);
            right = false;
        }
    }

    private int upTo(int most) {
        return random.nextInt(most + 1);
    }

    /** Mostly one that there is, at times one at the edge or beyond. */
    private int about(int size) {
        if (size > 0 && random.nextInt(15) > 0) {
            return random.nextInt(size);
        }
        int[] odd = {-1, size, size + 1, 7, -5, Integer.MAX_VALUE, Integer.MIN_VALUE};
        return odd[random.nextInt(odd.length)];
    }

    private int within(int least, int most) {
        switch (random.nextInt(12)) {
            case 0:
                return least - random.nextInt(2);
            case 1:
                return most + random.nextInt(2);
            default:
                return least + random.nextInt(most - least + 1);
        }
    }

    private void put(byte[] bytes) {
        for (int i = 0; i < bytes.length; i += 20) {
            int[] w = new int[5];
            for (int j = 0; j < 5; j++) {
                w[j] = Check.word(bytes, i + 4 * j);
            }
            same("feed", () -> ring.feed(w[0], w[1], w[2], w[3], w[4]), () -> model.feed(w));
        }
        same("end(" + bytes.length + ")", () -> ring.end(bytes.length), () -> model.end(bytes.length));
    }

    // ---- texts

    private String blanks() {
        return random.nextInt(8) == 0 ? "  " : " ";
    }

    private String number(int most) {
        int n = upTo(most);
        int kind = random.nextInt(60);
        return kind == 0 ? String.valueOf(most + 1) : kind == 1 ? "0" + n : kind == 2 ? "1000" : String.valueOf(n);
    }

    private String promenadeLine() {
        int walkers = model.all.walkers.size();
        int last = model.all.longIs - 1;
        String b = blanks();
        switch (random.nextInt(14)) {
            case 0:
                return "long" + b + number(200);
            case 1:
                return "band" + b + number(last);
            case 2:
                return "mist" + b + number(100);
            case 3:
                return "misty";
            case 4:
                return "hour" + b + number(999);
            case 5:
            case 6:
                return "shelter at" + b + number(last) + " seats" + b + (1 + upTo(2));
            case 7:
            case 8:
                return "shuns " + number(Math.max(1, walkers)) + " " + number(Math.max(1, walkers + 1));
            default:
                String near = random.nextInt(4) == 0 ? number(Math.min(last, 3)) : number(last);
                return "walker" + b + "at " + near + b + "pace " + number(random.nextBoolean() ? 12 : 99)
                    + (random.nextInt(3) == 0 ? b + "black" : "");
        }
    }

    private String part() {
        String[] words = {"walker", "at", "pace", "gap", "met", "rounds", "hats"};
        return random.nextInt(3) == 0 ? number(random.nextBoolean() ? 9 : 150) : words[random.nextInt(words.length)];
    }

    private String sum() {
        StringBuilder b = new StringBuilder(part());
        while (random.nextInt(4) == 0) {
            b.append(random.nextBoolean() ? "+" : " + ").append(part());
        }
        return b.toString();
    }

    private String atom(int deep) {
        String[] truths = {"black", "misty", "hears"};
        switch (random.nextInt(deep > 7 ? 5 : 9)) {
            case 0:
            case 1:
                return truths[random.nextInt(3)];
            case 2:
            case 3:
            case 4:
                return sum() + (random.nextBoolean() ? "<" : " > ") + sum();
            case 5:
            case 6:
                return "not " + atom(deep + 1);
            default:
                return "(" + condition(deep + 1) + (random.nextInt(90) == 0 ? "" : ")");
        }
    }

    private String condition(int deep) {
        StringBuilder b = new StringBuilder(atom(deep));
        while (random.nextInt(3) == 0 && b.length() < 200) {
            b.append(random.nextBoolean() ? " and " : " or ").append(atom(deep));
        }
        return b.toString();
    }

    private String lawLine() {
        String when = random.nextInt(5) > 0 ? " if " + condition(random.nextInt(9) == 0 ? -9 : 3) : "";
        switch (random.nextInt(5)) {
            case 0:
                return "stop" + when;
            case 1:
            case 2:
                return "slow " + number(20) + when;
            default:
                return "haste " + number(random.nextBoolean() ? 20 : 99) + when;
        }
    }

    private String spoilt(String text) {
        if (text.isEmpty() || random.nextInt(5) > 0) {
            return text;
        }
        int at = random.nextInt(text.length());
        String signs = "; ()<>+ax09Z\n\u00ff\u0000";
        char sign = signs.charAt(random.nextInt(signs.length()));
        switch (random.nextInt(3)) {
            case 0:
                return text.substring(0, at);
            case 1:
                return text.substring(0, at) + sign + text.substring(at);
            default:
                return text.substring(0, at) + text.substring(at + 1);
        }
    }

    private String text(boolean isLaw) {
        StringBuilder b = new StringBuilder();
        int lines = random.nextInt(10) == 0 ? 11 + upTo(5) : upTo(4);
        for (int i = 0; i < lines; i++) {
            b.append(i > 0 ? random.nextBoolean() ? ";" : " ; " : "");
            b.append(isLaw ? lawLine() : promenadeLine());
        }
        String text = spoilt(b.toString());
        return text.length() > 400 ? text.substring(0, 400) : text;
    }

    /** A ring so short and so full that what wraps around, is alike or stands in the way comes again and again. */
    private String crowd() {
        int yards = random.nextBoolean() ? 10 : 10 + upTo(12);
        StringBuilder b = new StringBuilder("long " + yards);
        for (int i = 3 + upTo(4); i > 0; i--) {
            b.append(";walker at ").append(upTo(yards - 1)).append(" pace ").append(upTo(random.nextInt(4) == 0 ? 99 : 4));
            b.append(random.nextInt(3) == 0 ? " black" : "");
        }
        for (int i = upTo(4); i > 0; i--) {
            b.append(";shelter at ").append(upTo(yards - 1)).append(" seats ").append(1 + upTo(2));
        }
        return b.append(random.nextBoolean() ? ";shuns 0 1" : ";mist 50").append(random.nextBoolean() ? ";shuns 2 0" : "").toString();
    }

    private void tellPromenade() {
        tell(text(false));
    }

    private void tell(String text) {
        put(text.getBytes(StandardCharsets.ISO_8859_1));
        same("promenade: " + text, ring::promenade, model::promenade);
        same("fault", ring::fault, () -> model.fault);
    }

    private void tellLaw() {
        String text = text(true);
        put(text.getBytes(StandardCharsets.ISO_8859_1));
        same("law: " + text, ring::law, model::law);
        same("fault", ring::fault, () -> model.fault);
    }

    private void tellText() {
        if (random.nextBoolean()) {
            tellPromenade();
        } else {
            tellLaw();
        }
    }

    // ---- calls

    private void act() {
        int w = about(model.all.walkers.size());
        int o = about(model.all.walkers.size());
        int s = about(model.all.shelters.size());
        int place = about(model.all.longIs);
        boolean is = random.nextBoolean();
        int pace = within(0, random.nextBoolean() ? 15 : 99);
        switch (random.nextInt(13)) {
            case 0:
            case 1:
                int n = random.nextBoolean() ? within(1, 5) : within(1, 200);
                same("hours(" + n + ")", () -> ring.hours(n), () -> model.hours(n));
                break;
            case 2:
                same("out(" + pace + ")", () -> ring.out(pace), () -> model.out(pace));
                break;
            case 3:
                same("pace(" + w + ", " + pace + ")", () -> ring.pace(w, pace), () -> model.pace(w, pace));
                break;
            case 4:
            case 5:
                same("shun(" + w + ", " + o + ", " + is + ")", () -> ring.shun(w, o, is), () -> model.shun(w, o, is));
                break;
            case 6:
                same("mourn(" + w + ", " + is + ")", () -> ring.mourn(w, is), () -> model.mourn(w, is));
                break;
            case 7:
                same("move(" + s + ", " + place + ")", () -> ring.move(s, place), () -> model.move(s, place));
                break;
            case 8:
                same("lad(" + w + ")", () -> ring.lad(w), () -> model.lad(w));
                break;
            case 9:
                int seed = random.nextBoolean() ? upTo(9) : random.nextInt();
                same("seed(" + seed + ")", () -> ring.seed(seed), () -> model.seed(seed));
                break;
            case 10:
            case 11:
                same("undo()", ring::undo, model::undo);
                break;
            default:
                if (random.nextInt(3) > 0) {
                    ring.image();
                    model.image();
                    done.add("image()");
                } else {
                    same("back()", ring::back, model::back);
                }
        }
    }

    private void ask() {
        switch (random.nextInt(5)) {
            case 0:
                askOfOne();
                break;
            case 1:
                askOfTwo();
                break;
            case 2:
                askByTape();
                break;
            case 3:
                askOfAll();
                break;
            default:
                askFigures();
        }
    }

    private void askFigures() {
        int w = about(model.all.walkers.size());
        int s = about(model.all.shelters.size());
        int what = within(0, 13);
        int few = within(0, 2);
        int counted = within(0, 10);
        int row = within(0, 3);
        int ago = within(0, 61);
        same("walker(" + w + ", " + what + ")", () -> ring.walker(w, what), () -> model.walker(w, what));
        same("shelter(" + s + ", " + few + ")", () -> ring.shelter(s, few), () -> model.shelter(s, few));
        same("count(" + counted + ")", () -> ring.count(counted), () -> model.count(counted));
        same("log(" + ago + ", " + row + ")", () -> ring.log(ago, row), () -> model.log(ago, row));
    }

    private void askOfOne() {
        int w = about(model.all.walkers.size());
        int n = random.nextBoolean() ? within(0, 6) : within(0, 200);
        int place = about(model.all.longIs);
        int set = random.nextInt(6) == 0 ? random.nextInt() : random.nextInt(3) == 0 ? 0 : upTo(127) & upTo(127);
        int six = within(1, 6);
        int e = within(1, 200);
        boolean is = random.nextBoolean();
        switch (random.nextInt(9)) {
            case 0:
                same("where(" + w + ", " + n + ")", () -> ring.where(w, n), () -> model.where(w, n));
                break;
            case 1:
                same("circle(" + w + ", " + n + ")", () -> ring.circle(w, n), () -> model.circle(w, n));
                break;
            case 2:
                same("laps(" + w + ", " + n + ")", () -> ring.laps(w, n), () -> model.laps(w, n));
                break;
            case 3:
                same("alone(" + w + ", " + place + ")", () -> ring.alone(w, place), () -> model.alone(w, place));
                break;
            case 4:
                same("period(" + w + ")", () -> ring.period(w), () -> model.period(w));
                break;
            case 5:
                same("stands(" + w + ", " + set + ", " + six + ")",
                    () -> ring.stands(w, set, six), () -> model.stands(w, set, six));
                break;
            case 6:
                same("told(" + w + ", " + e + ")", () -> ring.told(w, e), () -> model.told(w, e));
                break;
            case 7:
                same("seated(" + w + ")", () -> ring.seated(w), () -> model.seated(w));
                same("couples(" + w + ")", () -> ring.couples(w), () -> model.couples(w));
                break;
            default:
                same("led(" + w + ", " + is + ")", () -> ring.led(w, is), () -> model.led(w, is));
        }
    }

    private void askOfTwo() {
        int w = about(model.all.walkers.size());
        int o = about(model.all.walkers.size());
        int place = about(model.all.longIs);
        int other = about(model.all.longIs);
        int e = random.nextBoolean() ? within(1, 200) : within(1, 30);
        switch (random.nextInt(5)) {
            case 0:
                same("up(" + w + ", " + o + ")", () -> ring.up(w, o), () -> model.up(w, o));
                break;
            case 1:
                same("both(" + w + ", " + o + ")", () -> ring.both(w, o), () -> model.both(w, o));
                break;
            case 2:
                same("calls(" + w + ", " + o + ", " + e + ")", () -> ring.calls(w, o, e), () -> model.calls(w, o, e));
                break;
            case 3:
                same("rests(" + w + ", " + o + ")", () -> ring.rests(w, o), () -> model.rests(w, o));
                break;
            default:
                same("gap(" + place + ", " + other + ")", () -> ring.gap(place, other), () -> model.gap(place, other));
        }
    }

    private void askByTape() {
        boolean lengths = random.nextBoolean();
        int rows = random.nextInt(20) == 0 ? 20 + upTo(1) : upTo(5);
        byte[] bytes = new byte[rows * 2 + (random.nextInt(25) == 0 ? 1 : 0)];
        for (int i = 0; i < bytes.length; i++) {
            if (lengths) {
                bytes[i] = (byte) (i % 2 == 0 ? upTo(255) : random.nextInt(50) == 0 ? 2 : random.nextInt(3) == 0 ? 1 : 0);
            } else {
                bytes[i] = (byte) upTo(Math.max(0, model.all.walkers.size() - (random.nextInt(60) == 0 ? 0 : 1)));
                if (i % 2 == 1 && bytes[i] == bytes[i - 1] && random.nextInt(20) > 0) {
                    bytes[i] = (byte) (bytes[i - 1] == 0 ? 1 : bytes[i - 1] - 1);
                }
            }
        }
        put(bytes);
        boolean is = random.nextBoolean();
        boolean half = random.nextBoolean();
        int k = within(-1, 7);
        if (lengths && half) {
            same("round(" + is + ")", () -> ring.round(is), () -> model.round(is));
        } else if (lengths) {
            same("tries()", ring::tries, model::tries);
        } else if (half) {
            same("backs(" + k + ")", () -> ring.backs(k), () -> model.backs(k));
        } else {
            same("ask()", ring::ask, model::ask);
        }
    }

    private void askOfAll() {
        int n = random.nextInt(4) > 0 ? within(0, 20) : within(0, 200);
        int e = within(0, 199);
        int g = within(1, 40);
        int t = within(0, 20);
        int five = within(0, 5);
        int k = within(0, 5);
        boolean is = random.nextBoolean();
        switch (random.nextInt(14)) {
            case 0:
                same("order(" + k + ")", () -> ring.order(k), () -> model.order(k));
                break;
            case 1:
                same("ear()", ring::ear, model::ear);
                break;
            case 2:
                same("farthest()", ring::farthest, model::farthest);
                break;
            case 3:
                same("few(" + e + ")", () -> ring.few(e), () -> model.few(e));
                break;
            case 4:
                same("swaps()", ring::swaps, model::swaps);
                break;
            case 5:
                same("chase(" + g + ", " + t + ")", () -> ring.chase(g, t), () -> model.chase(g, t));
                break;
            case 6:
                same("odds(" + five + ", " + k + ")", () -> ring.odds(five, k), () -> model.odds(five, k));
                break;
            case 7:
                same("black()", ring::black, model::black);
                same("stretch()", ring::stretch, model::stretch);
                break;
            case 8:
                same("fastest(" + is + ")", () -> ring.fastest(is), () -> model.fastest(is));
                break;
            case 9:
                same("popular()", ring::popular, model::popular);
                break;
            case 10:
                same("twins()", ring::twins, model::twins);
                break;
            case 11:
                same("bunch(" + e + ")", () -> ring.bunch(e), () -> model.bunch(e));
                break;
            case 12:
                same("trial(" + n + ", " + is + ")", () -> ring.trial(n, is), () -> model.trial(n, is));
                break;
            default:
                same("span(" + n + ", " + is + ")", () -> ring.span(n, is), () -> model.span(n, is));
        }
    }
}
