import java.util.ArrayList;
import java.util.List;
import java.util.function.ToLongFunction;

/** Made-up calls, wrong ones among them, on an object and on the plain model of it: both answer alike. */
public final class ModelTest {
    private static final int OBJECTS = 700;
    /** Calls that are not questions: with as many questions as a look asks they are no more than 512. */
    private static final int MOST_CALLS = 230;
    private static long seed = 20L;

    private final BandPress x = new BandPress();
    private final Model model = new Model();
    private final List<ToLongFunction<BandPress>> calls = new ArrayList<>();
    private final String name;
    private int outs = 0;

    private ModelTest(int number) {
        name = "object " + number;
    }

    public static void main(String[] args) {
        int[] errors = new int[13];
        int jams = 0;
        int outs = 0;
        for (int k = 0; k < OBJECTS; k++) {
            ModelTest test = new ModelTest(k);
            for (int call = 0; call < 70 && test.calls.size() < MOST_CALLS - 50; call++) {
                test.callOne();
                errors[test.model.error]++;
            }
            test.compareAll();
            jams += test.model.jams;
            outs += test.outs + test.model.outs();
        }
        for (int error = 0; error <= 12; error++) {
            Check.due("whether error " + error + " was met", errors[error] > 0, true);
        }
        Check.due("whether there were jams", jams > OBJECTS / 20, true);
        Check.due("whether sheets went out", outs > OBJECTS, true);
        Check.end();
    }

    private static int pick(int low, int high) {
        seed = seed * 6364136223846793005L + 1442695040888963407L;
        return low + (int) ((seed >>> 33) % (high - low + 1));
    }

    private static int odd(int low, int high) {
        int kind = pick(0, 30);
        return kind == 0 ? Integer.MIN_VALUE : kind == 1 ? Integer.MAX_VALUE : kind == 2 ? low - 1 : kind == 3 ? high + 1 : pick(low, high);
    }

    private void due(String what, long got, long want) {
        Check.due(name + ": " + what, got, want);
    }

    private void call(String what, ToLongFunction<BandPress> call, long want) {
        calls.add(call);
        due(what, call.applyAsLong(x), want);
    }

    private void callOne() {
        switch (pick(0, 15)) {
            case 0, 1 -> job();
            case 2, 3 -> run();
            case 4, 5, 6, 7 -> tick();
            case 8 -> stick();
            case 9 -> take();
            case 10, 11 -> load();
            case 12 -> cover();
            case 13 -> type();
            case 14 -> goOn();
            default -> clear();
        }
        compareSome();
    }

    private void type() {
        long word = pick(0, 1) == 0 ? seed : Check.word("1 2+:a P") ^ (pick(0, 3) == 0 ? 128L << 8 * pick(0, 7) : 0L);
        type(word, odd(1, 8));
    }

    private void type(long word, int n) {
        call("type(" + word + ", " + n + ")", y -> y.type(word, n) ? 1 : 0, model.type(word, n) ? 1 : 0);
    }

    private void job() {
        if (model.state == 1 && pick(0, 3) > 0) {
            return;
        }
        String text = Jobs.text();
        for (int at = 0; at < text.length(); at += 8) {
            String part = text.substring(at, Math.min(text.length(), at + 8));
            type(Check.word(part), part.length());
        }
        start();
        if (pick(0, 1) == 0) {
            run();
        }
    }

    private void start() {
        int copies = odd(1, 4);
        boolean twoSided = pick(0, 1) == 0;
        int limit = pick(0, 3) == 0 ? odd(1, 40) : odd(1, 20000);
        String tape = model.tape;
        int gone = model.outs();
        int want = model.start(copies, twoSided, limit);
        outs += want == 0 ? gone : 0;
        call("start of " + tape, y -> y.start(copies, twoSided, limit), want);
    }

    private void run() {
        int n = pick(0, 1) == 0 ? pick(1, 30) : odd(1, 5000);
        int want = model.state != 1 ? Check.STATE : n < 1 || n > 5000 ? Check.ARGUMENT : model.run(n);
        call("run(" + n + ")", y -> Check.run(y, n), want);
    }

    private void tick() {
        tick(pick(0, 9) == 0 ? odd(1, 1000) : pick(1, 6));
    }

    private void tick(int n) {
        boolean wrong = n < 1 || n > 1000;
        for (int k = 0; k < n && !wrong; k++) {
            model.tick();
        }
        call("tick(" + n + ")", y -> Check.tick(y, n), wrong ? Check.ARGUMENT : model.press());
    }

    private void stick() {
        stick(odd(0, 3), pick(0, 2) > 0);
    }

    private void stick(int section, boolean on) {
        boolean right = section >= 0 && section < 4;
        if (right) {
            model.stick(section, on);
        }
        call("stick(" + section + ", " + on + ")", y -> y.stick(section, on) ? 1 : 0, right ? 1 : 0);
    }

    private void take() {
        take(odd(0, 3));
    }

    private void take(int section) {
        boolean right = section >= 0 && section < 4;
        call("take(" + section + ")", y -> y.take(section) ? 1 : 0, right && model.take(section) ? 1 : 0);
    }

    private void load() {
        int n = pick(0, 3) == 0 ? odd(1, 200) : pick(1, 5);
        boolean right = n >= 1 && n <= 200 && model.tray + n <= 500;
        model.tray += right ? n : 0;
        call("load(" + n + ")", y -> y.load(n), right ? model.tray : -1);
    }

    private void cover() {
        cover(pick(0, 2) == 0);
    }

    private void cover(boolean open) {
        boolean otherwise = open != model.open;
        model.open = open;
        call("cover(" + open + ")", y -> y.cover(open) ? 1 : 0, otherwise ? 1 : 0);
    }

    private void clear() {
        for (int k = 0; k < 4; k++) {
            stick(k, false);
            take(k);
        }
    }

    /** Without this few jobs would come to an end, and few sheets out. */
    private void goOn() {
        cover(false);
        run();
        load();
        tick(pick(1, 40));
    }

    private int job(int what) {
        return new int[] {model.state, model.error, model.errorPlace, model.pages.size(), model.steps, model.marks, model.size(),
            model.places(), model.grey()}[what];
    }

    private int press(int what) {
        return new int[] {model.press(), model.heat, model.tray, model.outs(), model.sheets(), model.ticks, model.jams}[what];
    }

    private void compareSome() {
        int what = pick(0, 8);
        due("job(" + what + ")", x.job(what), job(what));
        int of = pick(0, 6);
        due("press(" + of + ")", x.press(of), press(of));
        int section = pick(0, 3);
        due("section(" + section + ", " + what % 3 + ")", x.section(section, what % 3), model.section(section, what % 3));
    }

    private void play(BandPress y) {
        for (ToLongFunction<BandPress> call : calls) {
            call.applyAsLong(y);
        }
    }

    private void compareAll() {
        long[] looks = Check.look(this::play);
        List<Long> wants = wants();
        due("what it tells", looks.length, wants.size());
        for (int k = 0; k < wants.size(); k++) {
            due("question " + k + " of the look", looks[k], wants.get(k));
        }
        for (int page = 0; page < model.pages.size(); page++) {
            for (int b = 0; b < 6; b++) {
                compareBand(page, b);
            }
        }
    }

    /** What a look must tell, in its order. */
    private List<Long> wants() {
        List<Long> wants = new ArrayList<>();
        for (int what = 0; what < 9; what++) {
            wants.add((long) job(what));
        }
        for (int what = 0; what < 7; what++) {
            wants.add((long) press(what));
        }
        for (int k = 0; k < 33; k++) {
            wants.add((long) (k < model.size() ? model.value(k) : Check.ELEMENT));
            wants.add((long) (k < 26 ? model.variables[k] : 0));
        }
        for (int k = 0; k < 12; k++) {
            wants.add((long) model.section(k / 3, k % 3));
        }
        for (int k = 0; k < 128; k++) {
            wants.add((long) model.out(k / 4, k % 4));
        }
        for (int page = -1; page < model.pages.size(); page++) {
            for (boolean[] line : page < 0 ? model.page : model.pages.get(page)) {
                for (boolean black : line) {
                    wants.add(black ? 1L : 0L);
                }
            }
        }
        return wants;
    }

    private void compareBand(int page, int b) {
        BandPress y = Check.played(this::play);
        List<Integer> want = model.band(page, b);
        due("band(" + page + ", " + b + ")", y.band(page, b), want.size());
        for (int k = 0; k < want.size(); k++) {
            due("octet(" + page + ", " + b + ", " + k + ")", y.octet(page, b, k), want.get(k));
        }
        due("the byte behind it", y.octet(page, b, want.size()), -1);
    }

    /** Made-up texts: most of their parts find the values that they need. */
    private static final class Jobs {
        private static final String[] ODD = {"A", ":", "}", "{", "123456", "+", "D", "X", "O", "?", "R", "Q", "L", "C", "Z", "V",
            "{D1X R}D1X R ", "{a1+:aD1X{}?}D1X{}? ", "{a1+:a D a 19<X R 1{b1+:b}{}?}D1X R ", "33{7}R ", "210{1 1M}R ", "9{P}R ",
            "7{0 0M256 0L256 192L0 192LF}R ", "99999 99999T ", "4096 4096S ", "UUUU", "1 0/", "{}~", "17G"};

        static String text() {
            StringBuilder text = new StringBuilder();
            int parts = pick(0, 14);
            for (int k = 0; k < parts; k++) {
                text.append(part(0));
            }
            return text.length() > 300 ? text.substring(0, pick(200, 300)) : text.toString();
        }

        private static String number() {
            return switch (pick(0, 9)) {
                case 0 -> pick(0, 40) + "~";
                case 1 -> "" + (char) ('a' + pick(0, 2));
                case 2 -> number() + number() + "+-*<=".charAt(pick(0, 4));
                case 3 -> pick(0, 99) + " " + pick(1, 9) + "/%".charAt(pick(0, 1));
                case 4 -> pick(0, 99999) + "~".repeat(pick(0, 1)) + " ";
                case 5 -> pick(0, 9) + " ";
                default -> pick(0, 260) + " ";
            };
        }

        private static String place() {
            return pick(0, 260) + " " + pick(0, 200) + " ";
        }

        private static String part(int depth) {
            return switch (pick(0, 19)) {
                case 0 -> number();
                case 1 -> number() + ":" + (char) ('a' + pick(0, 2));
                case 2, 3 -> place() + "M" + place() + "L" + place() + "L";
                case 4 -> place() + "M" + place() + place() + place() + "C" + "Z".repeat(pick(0, 1));
                case 5 -> place() + "M" + place() + "L" + place() + "LZ" + place() + "L" + place() + "L";
                case 6, 7, 8 -> "FFEW".substring(pick(0, 3)).substring(0, 1);
                case 9 -> "P";
                case 10 -> pick(0, 16) + "G";
                case 11 -> "UVN".substring(pick(0, 2)).substring(0, 1);
                case 12 -> pick(0, 40) + "~".repeat(pick(0, 1)) + " " + pick(0, 40) + "T";
                case 13 -> pick(8, 24) + " " + pick(8, 24) + "~".repeat(pick(0, 1)) + "S";
                case 14, 15 -> depth > 3 ? " " : pick(0, 4) + "{" + part(depth + 1) + part(depth + 1) + "}R";
                case 16, 17 -> depth > 3 ? "" : number() + "{" + part(depth + 1) + "}{" + part(depth + 1) + "}?";
                case 18 -> depth == 0 ? "DO" : pick(0, 2) == 0 ? "Q" : "";
                default -> pick(0, 3) == 0 ? ODD[pick(0, ODD.length - 1)] : " ";
            };
        }
    }
}
