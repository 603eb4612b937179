import java.util.NoSuchElementException;

/** Each promise by hand: ordinary inputs, the edges that the document names, and wrong inputs. */
public final class PromiseTest {
    private static final int STATE = 901;
    private static final int ARGUMENT = 902;
    private static final int ELEMENT = 903;
    private static final String SQUARE = "0 0M 16 0L 16 16L 0 16LF ";
    private static final String ALL = "0 0M256 0L256 192L0 192LF ";

    private static int wrong = 0;

    public static void main(String[] args) {
        newObject();
        type();
        start();
        faults();
        run();
        job();
        values();
        reckoning();
        control();
        depth();
        variable();
        places();
        matrix();
        filling();
        clip();
        marks();
        pages();
        errorOrder();
        bands();
        warming();
        oneSided();
        twoSided();
        sticking();
        rowsOfTicks();
        taking();
        tray();
        cover();
        out();
        nextJob();
        System.out.println(wrong == 0 ? "all answers are as due" : wrong + " answers are not as due");
        if (wrong != 0) {
            System.exit(1);
        }
    }

    private static void due(String what, long got, long want) {
        if (got != want) {
            wrong++;
            System.out.println(what + " answered " + got + ", due is " + want);
        }
    }

    private static void due(String what, boolean got, boolean want) {
        due(what, got ? 1L : 0L, want ? 1L : 0L);
    }

    private static boolean typed(BandPress x, String text) {
        boolean all = true;
        for (int at = 0; at < text.length(); at += 8) {
            String part = text.substring(at, Math.min(text.length(), at + 8));
            long word = 0L;
            for (int k = 0; k < part.length(); k++) {
                word = word << 8 | part.charAt(k);
            }
            all &= x.type(word, part.length());
        }
        return all;
    }

    private static int started(BandPress x, String text) {
        due("type of " + text, typed(x, text), true);
        return x.start(1, false, 20000);
    }

    private static BandPress begun(String text, int copies, boolean twoSided, int limit) {
        BandPress x = new BandPress();
        due("type of " + text, typed(x, text), true);
        due("start of " + text, x.start(copies, twoSided, limit), 0);
        return x;
    }

    private static BandPress done(String text) {
        BandPress x = begun(text, 1, false, 20000);
        for (int k = 0; k < 5 && x.job(0) == 1; k++) {
            x.run(5000);
        }
        due("state of " + text, x.job(0), 2);
        return x;
    }

    private static BandPress printing(String text, int copies, boolean twoSided) {
        BandPress x = begun(text, copies, twoSided, 20000);
        x.run(5000);
        return x;
    }

    private static int tried(BandPress x, int n) {
        try {
            return x.run(n);
        } catch (IllegalStateException e) {
            return STATE;
        } catch (IllegalArgumentException e) {
            return ARGUMENT;
        }
    }

    private static int valueOf(BandPress x, int k) {
        try {
            return x.value(k);
        } catch (NoSuchElementException e) {
            return ELEMENT;
        }
    }

    private static int ticked(BandPress x, int n) {
        try {
            return x.tick(n);
        } catch (IllegalArgumentException e) {
            return ARGUMENT;
        }
    }

    private static void fails(String text, int error, int place) {
        BandPress x = done(text);
        due("error of " + text, x.job(1), error);
        due("place of the error of " + text, x.job(2), place);
    }

    private static void leaves(String text, int... values) {
        BandPress x = done(text);
        due("error of " + text, x.job(1), 0);
        due("values of " + text, x.job(6), values.length);
        for (int k = 0; k < values.length; k++) {
            due("value " + k + " of " + text, valueOf(x, k), values[k]);
        }
    }

    private static String times(int n, String text) {
        return text.repeat(n);
    }

    private static void newObject() {
        BandPress x = new BandPress();
        due("NONE", BandPress.NONE, -1);
        for (int what = 0; what < 8; what++) {
            due("new job(" + what + ")", x.job(what), 0);
        }
        due("new grey", x.job(8), 16);
        due("new value", valueOf(x, 0), ELEMENT);
        due("new variable", x.variable(0), 0);
        due("new pixel", x.pixel(-1, 0, 0), false);
        due("new band", x.band(0, 0), -1);
        due("new octet", x.octet(0, 0, 0), -1);
        for (int what = 0; what < 7; what++) {
            due("new press(" + what + ")", x.press(what), 0);
        }
        for (int k = 0; k < 4; k++) {
            due("new section", x.section(k, 0), -1);
            due("new sides", x.section(k, 1), 0);
            due("new sticks", x.section(k, 2), 0);
        }
        due("new out", x.out(0, 0), -1);
        due("new run", tried(x, 1), STATE);
    }

    private static void type() {
        BandPress x = new BandPress();
        due("type n 0", x.type(65L, 0), false);
        due("type n 9", x.type(65L, 9), false);
        due("type n -1", x.type(65L, -1), false);
        due("type 31", x.type(31L, 1), false);
        due("type 127", x.type(127L, 1), false);
        due("type 200", x.type(200L, 1), false);
        due("type a zero byte above", x.type(65L, 2), false);
        due("type a bad byte in the middle", x.type(0x310A32L, 3), false);
        due("type what is above n", x.type(0x7F31L, 1), true);
        due("type the highest byte first", x.type(0x2B203132L, 2), true);
        due("start 112", x.start(1, false, 9), 0);
        x.run(1);
        due("112", valueOf(x, 0), 112);
        BandPress full = new BandPress();
        due("type 296", typed(full, times(296, " ")), true);
        due("type 301", full.type(0x3131313131L, 5), false);
        due("type 300", full.type(0x31313131L, 4), true);
        due("type one more", full.type(49L, 1), false);
        due("start 300", full.start(1, false, 9), 0);
        due("type again", full.type(49L, 1), true);
        due("run 300", full.run(9), 1);
        due("value of 300", valueOf(full, 0), 1111);
        BandPress odd = new BandPress();
        due("type 32 and 126", odd.type(0x207EL, 2), true);
    }

    private static void start() {
        BandPress x = new BandPress();
        typed(x, "7");
        due("no copies", x.start(0, false, 5), -1);
        due("five copies", x.start(5, false, 5), -1);
        due("limit 0", x.start(1, false, 0), -1);
        due("limit 20001", x.start(1, false, 20001), -1);
        due("no job by that", x.job(0), 0);
        due("four copies, 20000", x.start(4, true, 20000), 0);
        due("under way", x.job(0), 1);
        typed(x, "A");
        due("start under way", x.start(1, false, 5), -1);
        due("run of 7", x.run(1), 1);
        due("the tape was kept", x.start(1, false, 5), 1);
        due("the job before stays", x.job(0), 2);
        due("its value stays", valueOf(x, 0), 7);
        due("the tape is empty after a fault", x.start(1, false, 5), 0);
        due("no value in a new job", x.job(6), 0);
    }

    private static void fault(String text, int answer) {
        due("fault of " + text, started(new BandPress(), text), answer);
    }

    private static void faults() {
        fault("", 0);
        fault("  ", 0);
        fault("12345", 0);
        fault("123456", 6);
        fault("12345 6", 0);
        fault("1 123456", 8);
        fault(":a", 0);
        fault(":", 2);
        fault(": ", 2);
        fault(":1", 2);
        fault(":A", 2);
        fault("::a", 2);
        fault(":{}", 2);
        fault("1:", 3);
        fault("}", 1);
        fault("{}}", 3);
        fault("{{}", 4);
        fault("{:", 3);
        fault("{{{{{{{{}}}}}}}}", 0);
        fault("{{{{{{{{{}}}}}}}}}", 9);
        fault("{{{{{{{{}{}}}}}}}}", 0);
        fault("+-*/%~<=DXO?RQMLCZNFEWTSGUVP{}az09:a", 0);
        for (char sign : "ABHIJKY!\"#$&'(),.;>@[\\]^_`|".toCharArray()) {
            fault("1 " + sign, 3);
        }
        fault("{A", 2);
        fault("} A", 1);
    }

    private static void run() {
        BandPress x = begun("1 2 3", 1, false, 9);
        due("run(0)", tried(x, 0), ARGUMENT);
        due("run(5001)", tried(x, 5001), ARGUMENT);
        due("run(-1)", tried(x, -1), ARGUMENT);
        due("nothing was done", x.job(4), 0);
        due("run(2)", tried(x, 2), 0);
        due("two values", x.job(6), 2);
        due("run(1) to the end", tried(x, 1), 1);
        due("run when ended", tried(x, 1), STATE);
        due("run when ended, wrong n", tried(x, 0), STATE);
        BandPress none = begun("   ", 1, false, 1);
        due("run without a word", tried(none, 5000), 1);
        due("no step", none.job(4), 0);
        BandPress error = begun("1+", 1, false, 9);
        due("run up to the error", tried(error, 1), 0);
        due("no error yet", error.job(1), 0);
        due("run with the error", tried(error, 1), 2);
        due("run behind the error", tried(error, 1), STATE);
        BandPress limit = begun("1 2 3", 1, false, 3);
        due("as many steps as the limit", tried(limit, 9), 1);
        BandPress more = begun("1 2 3", 1, false, 2);
        due("steps up to the limit", tried(more, 2), 0);
        due("a step more", tried(more, 1), 2);
        due("error 12", more.job(1), 12);
        due("place of error 12", more.job(2), 4);
        due("steps of error 12", more.job(4), 2);
        BandPress inside = begun("2{1O}R", 1, false, 99);
        due("the last word is under way", tried(inside, 6), 0);
        due("and done", tried(inside, 1), 1);
        due("steps of a loop", inside.job(4), 7);
    }

    private static void job() {
        BandPress x = begun("1 2{3}9G 4 4M 8 8L 16 0M 1 a 1D", 1, false, 999);
        x.run(3);
        due("values", x.job(6), 3);
        x.run(8);
        due("grey", x.job(8), 9);
        due("places", x.job(7), 2);
        due("steps", x.job(4), 11);
        due("no error", x.job(1), 0);
        due("no place", x.job(2), 0);
        x.run(99);
        due("ended", x.job(0), 2);
        due("places of two subpaths", x.job(7), 3);
        due("job(-1)", x.job(-1), -1);
        due("job(9)", x.job(9), -1);
        BandPress error = done("1 2 L");
        due("the error's step is not done", error.job(4), 2);
        due("its values stay", error.job(6), 2);
    }

    private static void values() {
        leaves("007", 7);
        leaves("99999", 99999);
        leaves("1 2 3", 3, 2, 1);
        leaves("12a3", 3, 0, 12);
        leaves(" {1 {2}} {}", 2000009, 2000001);
        leaves("1 {} D", 2000002, 2000002, 1);
        leaves("1 {} X", 1, 2000002);
        leaves("1 {} O", 1);
        BandPress x = done("5 6");
        due("value(-1)", valueOf(x, -1), ELEMENT);
        due("value(2)", valueOf(x, 2), ELEMENT);
        fails(times(33, "1 "), 5, 64);
        fails(times(32, "1 ") + "a", 5, 64);
        fails(times(32, "1 ") + "{}", 5, 64);
        fails(times(32, "1 ") + "D", 5, 64);
        fails("D", 1, 0);
        fails("1X", 1, 1);
        fails(" O", 1, 1);
        due("32 values", done(times(32, "1 ")).job(6), 32);
        due("X of a full stack", done(times(32, "1 ") + "X+").job(6), 31);
    }

    private static void reckoning() {
        leaves("7 2+", 9);
        leaves("2 7-", -5);
        leaves("7 2~*", -14);
        leaves("7~2/", -3);
        leaves("7 2~/", -3);
        leaves("7~5%", -2);
        leaves("7 5~%", 2);
        leaves("1 2<", 1);
        leaves("2 2<", 0);
        leaves("3 2<", 0);
        leaves("2 2=", 1);
        leaves("2 3=", 0);
        leaves("1000 1000*", 1000000);
        leaves("1000 1000*~", -1000000);
        fails("1000 1001*", 3, 9);
        fails("1000 1000*1+", 3, 11);
        fails("1000 1000*~1-", 3, 12);
        fails("1000 1000*D*", 3, 11);
        fails("1 0/", 4, 3);
        fails("1 0%", 4, 3);
        fails("{}0/", 2, 3);
        fails("0/", 1, 1);
        fails("{}1=", 2, 3);
        fails("1{}=", 2, 3);
        fails("{}~", 2, 2);
        fails("{}:a", 2, 2);
        fails(":a", 1, 0);
        due("values stay at an error", done("1 0/").job(6), 2);
    }

    private static void control() {
        leaves("1{5}{6}?", 5);
        leaves("0{5}{6}?", 6);
        leaves("1~{5}{6}?", 5);
        leaves("3{5}R", 5, 5, 5);
        leaves("0{5}R");
        leaves("2~{5}R");
        leaves("2{7 2{8}R}R 1", 1, 8, 8, 7, 8, 8, 7);
        leaves("5{1 Q 2}R 3", 3, 1);
        leaves("3{1{4 Q 5}{}? 6}R 7", 7, 4);
        leaves("2{9{1Q}R 2}R", 2, 1, 2, 1);
        leaves("9{1 9{Q}R Q}R", 1);
        leaves("1{Q 5}R 6", 6);
        leaves("2{a1+:a a 2={Q}{}? 3}R 6", 6, 3);
        leaves("99999{}R 1", 1);
        leaves("99999{  }R 1", 1);
        leaves("1{}{5}? 2", 2);
        leaves("{4} 1 X R", 4);
        fails("Q", 11, 0);
        fails("1{Q}{}?", 11, 2);
        fails("1{1}R Q", 11, 6);
        fails("{}{}?", 1, 4);
        fails("{}{}{}?", 2, 6);
        fails("1 {}1?", 2, 5);
        fails("1 1{}?", 2, 5);
        fails("1 1R", 2, 3);
        fails("{}{}R", 2, 4);
        fails("{}R", 1, 2);
        due("a procedure is one step", done("{1 2 3}").job(4), 1);
        due("an empty one has none", done("9{}R").job(4), 3);
        due("steps of a choice", done("1{1 2}{}?").job(4), 6);
    }

    private static void depth() {
        // a counts how many are under way in each other; each goes on to the next one as its last word
        BandPress x = done("{a1+:aD1X R}D1X R");
        due("error of the 21st", x.job(1), 5);
        due("20 began", x.variable(0), 20);
        due("its place", x.job(2), 10);
        BandPress chosen = done("{a1+:aD1X{}?}D1X{}?");
        due("error of the 21st by ?", chosen.job(1), 5);
        due("20 began by ?", chosen.variable(0), 20);
        BandPress none = done("{a1+:a D a 20=~1+ X R}D1X R");
        due("R of none in the 20th", none.job(1), 0);
        due("all 20 were done", none.variable(0), 20);
        // what is begun there is the twenty-first one, though it has no word
        BandPress empty = done("{a1+:a 1{}R D1X R}D1X R");
        due("20 under way", empty.variable(0), 20);
        due("error of an empty one", empty.job(1), 5);
        due("at its R", empty.job(2), 10);
    }

    private static void variable() {
        BandPress x = done("5:a 6~:z a z+:b a D:c D :c");
        due("a", x.variable(0), 5);
        due("b", x.variable(1), -1);
        due("c", x.variable(2), 5);
        due("z", x.variable(25), -6);
        due("y", x.variable(24), 0);
        due("variable(-1)", x.variable(-1), 0);
        due("variable(26)", x.variable(26), 0);
        started(x, "a");
        due("0 in a new job", x.variable(0), 0);
    }

    private static void countPlaces(String text, int places) {
        due("places of " + text, done(text).job(7), places);
    }

    private static void places() {
        countPlaces("1 1M", 1);
        countPlaces("1 1M2 2M", 2);
        countPlaces("1 1M2 2L3 3LZ", 3);
        countPlaces("1 1M2 2L3 3LZZ", 3);
        countPlaces("1 1M2 2LZ3 3L", 4);
        countPlaces("1 1M2 2LZ3 3L4 4L", 5);
        countPlaces("1 1M1 2 3 4 5 6C", 9);
        countPlaces("1 1MZ1 2 3 4 5 6C", 10);
        countPlaces("1 1MZ5 5M6 6L", 3);
        countPlaces("1 1M2 2LN", 0);
        countPlaces("1 1M2 2LF", 0);
        countPlaces("1 1M2 2LE", 0);
        countPlaces("1 1M2 2LW", 0);
        countPlaces("1 1M2 2LP", 0);
        countPlaces("1 1M2 2LU V", 2);
        countPlaces("200{1 1M}R", 200);
        fails("201{1 1M}R", 7, 7);
        countPlaces("1 1M199{2 2L}R", 200);
        fails("1 1M200{2 2L}R", 7, 11);
        fails("1 1M198{2 2L}RZ3 3L", 7, 18);
        countPlaces("1 1M197{2 2L}RZ3 3L", 200);
        countPlaces("192{1 1M}R 1 2 3 4 5 6C", 200);
        fails("193{1 1M}R 1 2 3 4 5 6C", 7, 22);
        fails("192{1 1M}RZ 1 2 3 4 5 6C", 7, 23);
        countPlaces("200{1 1M}RZ", 200);
        fails("1 1L", 6, 3);
        fails("Z", 6, 0);
        fails("1 2 3 4 5 6C", 6, 11);
        fails("1 1MN1 1L", 6, 8);
        fails("1 1MFZ", 6, 5);
        fails("1 1MPZ", 6, 5);
        fails("1M", 1, 1);
        fails("2 3 4 5 6C", 1, 9);
        fails("1{}M", 2, 3);
        // behind a Z the place is where the subpath began
        BandPress x = done("40 40M80 40L80 80LZ40 80L80 80LF");
        due("the upper half", x.pixel(-1, 18, 12), true);
        due("the lower half", x.pixel(-1, 12, 18), true);
        due("beyond", x.pixel(-1, 20, 12), false);
    }

    private static void matrix() {
        BandPress x = done("4 8T 32 16S " + SQUARE + "P");
        due("moved and stretched", x.pixel(0, 1, 2), true);
        due("to the right end", x.pixel(0, 8, 5), true);
        due("left of it", x.pixel(0, 0, 2), false);
        due("above it", x.pixel(0, 1, 1), false);
        due("right of it", x.pixel(0, 9, 5), false);
        due("below it", x.pixel(0, 8, 6), false);
        // 7 * 5 / 16 is 2 downwards, -7 * 5 / 16 is -3
        BandPress down = done("7 16S 5 0T 5~0T 16 16S" + "0 0M 16 0L 16 16L 0 16LF");
        due("2 - 3 is -1: up to 6, not with it", down.pixel(-1, 0, 0) && !down.pixel(-1, 1, 0), true);
        BandPress half = done("8 16S 7~0T 11 0T" + "0 0M 8 0L 8 16L 0 16LF");
        due("-4 + 5 quarters: centre at 2", half.pixel(-1, 0, 0), true);
        due("up to 5", half.pixel(-1, 1, 0), false);
        fails("99999 0M 2 0T 99999 0M", 3, 21);
        due("100000 is a place", done("99999 0T 1 0M").job(1), 0);
        fails("99999 0T 2 0M", 3, 12);
        fails("99999~0T 2~0M", 3, 12);
        due("-100000 is a place", done("0 99999~T 0 1~M").job(1), 0);
        fails("99999 0T 2 0T", 3, 12);
        fails("1 1M99999 0T 0 0 2 0 0 0C", 3, 24);
        fails("1 1M99999 0T 2 0 0 0 0 0C", 3, 24);
        fails("1 1M99999 0T 0 0 0 0 2 0C", 3, 24);
        fails("0 99999T 0 2M", 3, 12);
        fails("1 1M0 99999T 0 0 0 2 0 0C", 3, 24);
        due("Y of the first place of a curve", done("1 1M0 99999T 2 0 3 0 4 0C").job(1), 0);
        due("X of a place", done("99999 0T 0 2M").job(1), 0);
        due("T takes two values", done("1 2 3T").job(6), 1);
        due("S takes two values", done("1 2 3S").job(6), 1);
        due("G takes one value", done("1 2 3G").job(6), 2);
        due("M takes two values", done("1 2 3M").job(6), 1);
        due("C takes six values", done("1 1M1 2 3 4 5 6 7C").job(6), 1);
        due("4096 is a stretch", done("4096 4096~S").job(1), 0);
        fails("4097 16S", 3, 7);
        fails("16 4097~S", 3, 8);
        fails("4096 16S 17 16S", 3, 14);
        due("4096 to 4096", done("4096 16S 16 16S").job(1), 0);
        fails("1T", 1, 1);
        fails("{}1S", 2, 3);
        // -1 * 1 / 16 is -1 downwards, so that it never comes to 0
        BandPress negative = done("1~ 16S 1 16S 160~0T 0 0M 64~0L 64~16L 0 16LF");
        due("from 10 to 14", negative.pixel(-1, 2, 0) && !negative.pixel(-1, 3, 0), true);
        BandPress saved = done("U 8 8S 40 40T 3G V" + SQUARE);
        due("taken back", saved.pixel(-1, 3, 3), true);
        due("grey taken back", saved.job(8), 16);
    }

    private static void filling() {
        // the centre of pixel 1, 1 is 6, 6: an edge that meets it from the left counts, from the right too
        BandPress x = done("6 6M10 6L10 10L6 10LF");
        due("at the edge's place", x.pixel(-1, 1, 1), true);
        due("to the right it ends", x.pixel(-1, 2, 1), false);
        due("below it ends", x.pixel(-1, 1, 2), false);
        BandPress later = done("7 7M11 7L11 11L7 11LF");
        due("beyond the centre", later.pixel(-1, 1, 1), false);
        due("the next centre", later.pixel(-1, 2, 2), true);
        String twice = "0 0M40 0L40 40L0 40LZ 8 8M32 8L32 32L8 32L";
        due("F of one direction", done(twice + "F").pixel(-1, 5, 5), true);
        due("E of one direction", done(twice + "E").pixel(-1, 5, 5), false);
        due("E of the rim", done(twice + "E").pixel(-1, 1, 5), true);
        String against = "0 0M40 0L40 40L0 40LZ 8 8M8 32L32 32L32 8L";
        due("F of both directions", done(against + "F").pixel(-1, 5, 5), false);
        due("F of the rim", done(against + "F").pixel(-1, 1, 5), true);
        BandPress grey = done("4G " + ALL);
        int[] cells = {0, 8, 2, 10, 12, 4, 14, 6, 3, 11, 1, 9, 15, 7, 13, 5};
        for (int k = 0; k < 16; k++) {
            due("cell " + k, grey.pixel(-1, 4 + k % 4, 8 + k / 4), cells[k] < 4);
        }
        BandPress white = done(ALL + "0G " + SQUARE);
        due("painted white", white.pixel(-1, 0, 0), false);
        due("left black", white.pixel(-1, 4, 0), true);
        due("stretches of white count", white.job(5), 52);
        fails("17G", 3, 2);
        fails("1~G", 3, 2);
        fails("{}G", 2, 2);
        due("no path is nothing", done("FE").job(1), 0);
        BandPress curve = done("0 0M0 40 40 40 40 0CF");
        due("in the curve", curve.pixel(-1, 5, 5), true);
        due("under the curve", curve.pixel(-1, 5, 8), false);
        due("beside the curve", curve.pixel(-1, 0, 5), false);
    }

    private static void clip() {
        String corner = "0 0M8 0L8 8L0 8LW ";
        BandPress x = done(corner + SQUARE);
        due("in the clip", x.pixel(-1, 1, 1), true);
        due("out of the clip", x.pixel(-1, 2, 1), false);
        due("marks in the clip", x.job(5), 2);
        BandPress both = done(corner + "4 4M16 4L16 16L4 16LW " + ALL);
        due("what is in both", both.pixel(-1, 1, 1), true);
        due("in one alone", both.pixel(-1, 0, 0), false);
        due("marks of both", both.job(5), 1);
        due("a saved clip is in force", done(corner + "U" + ALL).job(5), 2);
        due("behind two that were saved", done("UU" + corner + "U" + ALL).job(5), 2);
        due("cut further and taken back", done(corner + "UWV" + ALL).job(5), 2);
        due("no path, no clip", done("W" + ALL).job(5), 0);
        due("a clip that is taken back", done("UWV" + ALL).job(5), 48);
        due("a clip for all pages", done(corner + "P" + ALL).job(5), 2);
        due("W as F", done("0 0M40 0L40 40L0 40LZ 8 8M32 8L32 32L8 32LW" + ALL).job(5), 10);
        fails("V", 10, 0);
        fails("UUUUU", 10, 4);
        due("four saved", done("UUUUVVVV").job(1), 0);
        fails("UVV", 10, 2);
        BandPress next = done(corner);
        started(next, ALL);
        next.run(99);
        due("no clip in a new job", next.job(5), 48);
    }

    private static void marks() {
        due("a mark a line", done(SQUARE).job(5), 4);
        String comb = "{a 0Ma 4+0La 4+192La 192L a 8+:a}";
        due("two stretches a line", done("2" + comb + "RF").job(5), 96);
        due("side by side is one", done("0 0M4 0L4 4L0 4L 4 0M8 0L8 4L4 4LF").job(5), 1);
        due("250 marks", done("5{" + ALL + "}R 0 0M4 0L4 40L0 40LF").job(5), 250);
        BandPress x = done("5{" + ALL + "}R 8 8M12 8L12 52L8 52LF");
        due("251 marks", x.job(1), 8);
        due("marks stay", x.job(5), 240);
        due("the path stays", x.job(7), 4);
        BandPress other = done("5{" + ALL + "}R 0G 8 8M12 8L12 52L8 52LE");
        due("251 marks by E", other.job(1), 8);
        due("nothing is painted", other.pixel(-1, 2, 2), true);
        due("a new page, new marks", done("5{" + ALL + "}RP" + ALL).job(5), 48);
        due("W marks nothing", done("0 0M40 0L40 40L0 40LW").job(5), 0);
    }

    private static void pages() {
        BandPress x = done(SQUARE + "P 40 0T" + SQUARE + "P 0 40T" + SQUARE);
        due("pages", x.job(3), 2);
        due("page 0", x.pixel(0, 0, 0), true);
        due("page 1 is white first", x.pixel(1, 0, 0), false);
        due("page 1", x.pixel(1, 10, 0), true);
        due("the page that was", x.pixel(-1, 10, 10), true);
        due("not on page 2", x.pixel(2, 10, 10), false);
        due("page -2", x.pixel(-2, 10, 10), false);
        due("x -1", x.pixel(0, -1, 0), false);
        due("x 64", x.pixel(0, 64, 0), false);
        due("y -1", x.pixel(0, 0, -1), false);
        due("y 48", x.pixel(0, 0, 48), false);
        BandPress all = done(ALL);
        due("last pixel", all.pixel(-1, 63, 47), true);
        due("x 64 of a black one", all.pixel(-1, 64, 47), false);
        due("y 48 of a black one", all.pixel(-1, 63, 48), false);
        due("eight pages", done("8{P}R").job(3), 8);
        BandPress nine = done("9{P}R");
        due("a ninth page", nine.job(1), 9);
        due("eight are kept", nine.job(3), 8);
        BandPress old = printing(SQUARE + "P" + SQUARE, 1, false);
        old.load(1);
        old.tick(20);
        started(old, "");
        due("the page of the job before is gone", old.pixel(0, 0, 0), false);
        due("the one under way, too", old.pixel(-1, 0, 0), false);
        due("no pages", old.job(3), 0);
    }

    private static void errorOrder() {
        fails("99999 0T 2 0L", 3, 12);
        fails("200{1 1M}R 99999 0T 2 0L", 3, 23);
        fails("{}L", 1, 2);
        fails("{}1L", 2, 3);
        BandPress zero = begun("1 0/", 1, false, 2);
        due("divided by 0 beyond the limit", tried(zero, 9), 2);
        due("is error 4", zero.job(1), 4);
        BandPress loop = begun("1Q", 1, false, 1);
        due("Q beyond the limit", tried(loop, 9), 2);
        due("is error 11", loop.job(1), 11);
        BandPress fine = begun("1D", 1, false, 1);
        due("D beyond the limit", tried(fine, 9), 2);
        due("is error 12", fine.job(1), 12);
        due("and does nothing", fine.job(6), 1);
    }

    private static void band(BandPress x, int page, int b, int... octets) {
        due("size of band " + b, x.band(page, b), octets.length);
        for (int k = 0; k < octets.length; k++) {
            due("byte " + k + " of band " + b, x.octet(page, b, k), octets[k]);
        }
        due("byte behind band " + b, x.octet(page, b, octets.length), -1);
        due("byte before band " + b, x.octet(page, b, -1), -1);
    }

    private static void bands() {
        BandPress white = done("P");
        for (int b = 0; b < 6; b++) {
            band(white, 0, b, 200);
        }
        due("band 6", white.band(0, 6), -1);
        due("band -1", white.band(0, -1), -1);
        due("page 1", white.band(1, 0), -1);
        due("page -1", white.band(-1, 0), -1);
        due("octet of page -1", white.octet(-1, 0, 0), -1);
        due("octet of band 6", white.octet(0, 6, 0), -1);
        // each band begins below a white line
        BandPress black = done(ALL + "P");
        band(black, 0, 0, 136, 255, 199);
        band(black, 0, 5, 136, 255, 199);
        BandPress corner = done("0 0M4 0L4 4L0 4LF 252 28M256 28L256 32L252 32LF P");
        band(corner, 0, 0, 1, 128, 135, 0, 136, 0, 197, 135, 0, 1, 1);
        band(corner, 0, 1, 200);
        // bytes 0 .. 7: 128 0 0 255 255 255 0 1
        BandPress mixed = done("0 0M4 0L4 4L0 4LF 96 0M192 0L192 4L96 4LF 252 0M256 0L256 4L252 4LF P");
        band(mixed, 0, 0, 1, 128, 130, 0, 131, 255, 2, 0, 1, 136, 0, 198);
    }

    private static void warming() {
        BandPress x = new BandPress();
        due("tick(0)", ticked(x, 0), ARGUMENT);
        due("tick(1001)", ticked(x, 1001), ARGUMENT);
        due("tick(-1)", ticked(x, -1), ARGUMENT);
        due("no tick", x.press(5), 0);
        due("tick(1000)", ticked(x, 1000), 0);
        due("ticks", x.press(5), 1000);
        due("no heat", x.press(1), 0);
        started(x, "PP");
        x.run(1);
        due("a job under way has no sheets", x.press(4), 0);
        due("and no heat", ticked(x, 1), 0);
        due("heat 0", x.press(1), 0);
        x.run(9);
        due("two sheets", x.press(4), 2);
        due("the tray is empty", x.press(0), 4);
        due("it warms all the same", ticked(x, 3), 4);
        due("heat 30", x.press(1), 30);
        ticked(x, 20);
        due("heat 100", x.press(1), 100);
        x.load(2);
        due("warm", x.press(0), 2);
        due("out soon", ticked(x, 6), 0);
        due("it cools", x.press(1), 95);
        due("to 0", ticked(x, 30), 0);
        due("heat 0 again", x.press(1), 0);
        due("press(-1)", x.press(-1), -1);
        due("press(7)", x.press(7), -1);
    }

    private static void at(BandPress x, int register, int drum, int fuser, int turn) {
        String when = " at tick " + x.press(5);
        due("REGISTER" + when, x.section(0, 0), register);
        due("DRUM" + when, x.section(1, 0), drum);
        due("FUSER" + when, x.section(2, 0), fuser);
        due("TURN" + when, x.section(3, 0), turn);
    }

    private static void oneSided() {
        BandPress x = printing("PP", 2, false);
        x.load(9);
        due("cold", ticked(x, 1), 1);
        at(x, 0, -1, -1, -1);
        due("tray", x.press(2), 8);
        due("still cold", ticked(x, 6), 1);
        at(x, 0, -1, -1, -1);
        due("warm", ticked(x, 1), 2);
        at(x, 1, 0, -1, -1);
        due("no side yet", x.section(1, 1), 0);
        ticked(x, 1);
        at(x, -1, 1, 0, -1);
        due("a side", x.section(2, 1), 1);
        ticked(x, 1);
        at(x, 2, -1, 1, -1);
        due("one out", x.press(3), 1);
        ticked(x, 1);
        at(x, 3, 2, -1, -1);
        due("two out", x.press(3), 2);
        due("all out", ticked(x, 3), 0);
        at(x, -1, -1, -1, -1);
        due("four out", x.press(3), 4);
        due("tray", x.press(2), 5);
        due("nothing more comes", ticked(x, 9), 0);
        due("section(-1)", x.section(-1, 0), -1);
        due("section(4)", x.section(4, 2), -1);
        due("what 3", x.section(0, 3), -1);
        due("what -1", x.section(0, -1), -1);
    }

    private static void twoSided() {
        BandPress x = printing("PPP", 1, true);
        due("two sheets", x.press(4), 2);
        x.load(9);
        ticked(x, 8);
        at(x, 1, 0, -1, -1);
        ticked(x, 1);
        at(x, -1, 1, 0, -1);
        ticked(x, 1);
        at(x, -1, -1, 1, 0);
        due("one side on TURN", x.section(3, 1), 1);
        ticked(x, 1);
        // TURN is not yet free when it is FUSER's turn
        at(x, 0, -1, 1, -1);
        due("one side on REGISTER", x.section(0, 1), 1);
        ticked(x, 1);
        at(x, -1, 0, -1, 1);
        ticked(x, 1);
        at(x, 1, -1, 0, -1);
        due("two sides", x.section(2, 1), 2);
        ticked(x, 1);
        at(x, -1, 1, -1, -1);
        due("one out", x.press(3), 1);
        ticked(x, 1);
        at(x, -1, -1, 1, -1);
        due("the white back is printed", x.section(2, 1), 2);
        due("all out", ticked(x, 1), 0);
        due("second page", x.out(0, 3), 1);
        due("white back", x.out(1, 3), -1);
        due("tray", x.press(2), 7);

        // the third sheet waits till fewer than two are inside, though REGISTER is free before
        BandPress three = printing("PPPPPP", 1, true);
        three.load(9);
        ticked(three, 13);
        due("two came", three.press(2), 7);
        ticked(three, 1);
        at(three, 2, 1, -1, -1);
        due("the third comes", three.press(2), 6);

        // alone inside, the first one on TURN keeps the next one away
        BandPress turn = printing("PPPP", 1, true);
        turn.load(1);
        ticked(turn, 10);
        at(turn, -1, -1, -1, 0);
        turn.load(1);
        turn.stick(3, true);
        ticked(turn, 1);
        at(turn, -1, -1, -1, 0);
        due("TURN is not empty", turn.press(2), 1);
    }

    private static void sticking() {
        BandPress x = printing("PPP", 1, false);
        due("stick(-1)", x.stick(-1, true), false);
        due("stick(4)", x.stick(4, true), false);
        due("stick(0)", x.stick(0, true), true);
        due("sticks", x.section(0, 2), 1);
        due("again", x.stick(0, true), true);
        x.load(9);
        due("it would not have gone while it was cold", ticked(x, 10), 2);
        at(x, 0, -1, -1, -1);
        due("the fourth tick", ticked(x, 1), 3);
        due("jammed once", x.press(6), 1);
        due("heat goes on", x.press(1), 100);
        due("it stays jammed", ticked(x, 5), 3);
        due("with nothing inside, but sticking", x.take(0), true);
        due("still jammed", ticked(x, 1), 3);
        due("sticks no more", x.stick(0, false), true);
        due("jammed till a tick", x.press(0), 3);
        due("no more", ticked(x, 1), 2);
        at(x, 0, -1, -1, -1);
        x.stick(1, true);
        due("DRUM", ticked(x, 1), 2);
        at(x, 1, 0, -1, -1);
        due("three ticks", ticked(x, 3), 2);
        due("its side is not printed", x.section(1, 1), 0);
        due("the fourth", ticked(x, 1), 3);
        due("jammed twice", x.press(6), 2);
        x.stick(1, false);
        due("something is inside", ticked(x, 1), 3);
        at(x, 1, 0, -1, -1);
        x.take(1);
        due("one is on REGISTER still", ticked(x, 1), 3);
        x.take(0);
        due("all are made", ticked(x, 20), 0);
        due("out in order", x.out(2, 0), 2);
        BandPress turn = printing("PP", 1, true);
        turn.load(9);
        turn.stick(3, true);
        ticked(turn, 10);
        at(turn, -1, -1, -1, 0);
        due("TURN: three", ticked(turn, 3), 2);
        due("TURN: four", ticked(turn, 1), 3);
    }

    private static void rowsOfTicks() {
        BandPress x = printing("P", 1, false);
        x.load(9);
        x.stick(2, true);
        ticked(x, 9);
        at(x, -1, -1, 0, -1);
        due("three", ticked(x, 3), 2);
        x.stick(2, false);
        x.stick(2, true);
        due("no tick between: the fourth", ticked(x, 1), 3);

        BandPress open = printing("P", 1, false);
        open.load(9);
        open.stick(2, true);
        ticked(open, 12);
        open.cover(true);
        ticked(open, 1);
        open.cover(false);
        due("an open cover breaks the row", ticked(open, 3), 2);
        due("four anew", ticked(open, 1), 3);

        BandPress shut = printing("P", 1, false);
        shut.load(9);
        shut.stick(2, true);
        ticked(shut, 12);
        shut.cover(true);
        shut.cover(false);
        due("no tick with the cover open", ticked(shut, 1), 3);

        // DRUM sticks, but FUSER is not free: it would not have gone
        BandPress blocked = printing("PP", 1, false);
        blocked.load(9);
        ticked(blocked, 9);
        at(blocked, -1, 1, 0, -1);
        blocked.stick(1, true);
        blocked.stick(2, true);
        ticked(blocked, 3);
        blocked.stick(2, false);
        due("FUSER goes first, so that DRUM counts from here", ticked(blocked, 3), 2);
        due("and is jammed", ticked(blocked, 1), 3);

        // two that jam in the same tick are one jam, behind what else goes
        BandPress both = printing("PP", 1, false);
        both.load(9);
        ticked(both, 8);
        at(both, 1, 0, -1, -1);
        both.stick(0, true);
        both.stick(1, true);
        ticked(both, 4);
        due("DRUM alone would have gone", both.press(6), 1);
        due("jammed", both.press(0), 3);
    }

    private static void taking() {
        BandPress x = printing("PPP", 1, false);
        x.load(9);
        ticked(x, 9);
        at(x, -1, 1, 0, -1);
        due("shut and not jammed", x.take(1), false);
        x.cover(true);
        due("take(-1)", x.take(-1), false);
        due("take(4)", x.take(4), false);
        due("an empty section", x.take(0), false);
        due("taken", x.take(2), true);
        due("taken once", x.take(2), false);
        due("no sides", x.section(2, 1), 0);
        x.cover(false);
        ticked(x, 1);
        at(x, 0, -1, 1, -1);
        due("made again", x.section(0, 0), 0);
        ticked(x, 20);
        due("1 first", x.out(0, 0), 1);
        due("then 0", x.out(1, 0), 0);
        due("then 2", x.out(2, 0), 2);
        due("a sheet more", x.press(2), 5);

        BandPress back = printing("PP", 1, true);
        back.load(9);
        ticked(back, 11);
        at(back, 0, -1, -1, -1);
        due("one side", back.section(0, 1), 1);
        back.cover(true);
        back.take(0);
        back.cover(false);
        ticked(back, 1);
        at(back, 0, -1, -1, -1);
        due("with all its sides", back.section(0, 1), 0);
        due("till it is out", ticked(back, 7), 0);
    }

    private static void tray() {
        BandPress x = new BandPress();
        due("load(0)", x.load(0), -1);
        due("load(201)", x.load(201), -1);
        due("load(-1)", x.load(-1), -1);
        due("load(200)", x.load(200), 200);
        due("load(200)", x.load(200), 400);
        due("load(101)", x.load(101), -1);
        due("load(100)", x.load(100), 500);
        due("load(1)", x.load(1), -1);
        due("tray", x.press(2), 500);
        BandPress few = printing("PP", 1, false);
        few.load(1);
        due("the tray gets empty", ticked(few, 20), 4);
        due("one is out", few.press(3), 1);
        few.load(1);
        due("goes on", ticked(few, 1), 2);
        at(few, 1, -1, -1, -1);
        due("the last one is on REGISTER", few.press(2), 0);
        due("to the end", ticked(few, 3), 0);
    }

    private static void cover() {
        BandPress x = printing("P", 1, false);
        due("shut", x.cover(false), false);
        due("opened", x.cover(true), true);
        due("open", x.cover(true), false);
        due("state", x.press(0), 5);
        x.load(5);
        due("nothing moves", ticked(x, 9), 5);
        at(x, -1, -1, -1, -1);
        due("no heat", x.press(1), 0);
        due("ticks count", x.press(5), 9);
        due("shut again", x.cover(false), true);
        ticked(x, 7);
        x.cover(true);
        ticked(x, 2);
        due("it cools by 5", x.press(1), 60);
        at(x, 0, -1, -1, -1);
        x.cover(false);
        x.stick(0, true);
        due("jammed", ticked(x, 6), 3);
        x.cover(true);
        due("the cover comes first", x.press(0), 5);
        x.take(0);
        x.stick(0, false);
        ticked(x, 1);
        x.cover(false);
        due("a tick with the cover open ends no jam", x.press(0), 3);
        due("the next one does", ticked(x, 1), 2);
    }

    private static void out() {
        BandPress x = printing("PPP", 2, true);
        x.load(9);
        due("all", ticked(x, 90), 0);
        int[][] due = {{0, 0, 0, 1}, {1, 0, 2, -1}, {2, 1, 0, 1}, {3, 1, 2, -1}};
        for (int k = 0; k < 4; k++) {
            for (int what = 0; what < 4; what++) {
                due("out(" + k + ", " + what + ")", x.out(k, what), due[k][what]);
            }
        }
        due("out(4)", x.out(4, 0), -1);
        due("out(-1)", x.out(-1, 0), -1);
        due("what 4", x.out(0, 4), -1);
        due("what -1", x.out(0, -1), -1);
        BandPress one = printing("PPP", 2, false);
        one.load(9);
        ticked(one, 90);
        due("sheet 4", one.out(4, 0), 4);
        due("its copy", one.out(4, 1), 1);
        due("its page", one.out(4, 2), 1);
        due("no second page", one.out(4, 3), -1);
    }

    private static void nextJob() {
        BandPress left = done("9 8T 8 8S 4G U 1 1M 2 2L");
        due("the start behind it", started(left, SQUARE), 0);
        due("no path", left.job(7), 0);
        due("GREY 16", left.job(8), 16);
        left.run(99);
        due("the matrix as at first", left.pixel(-1, 0, 0) && left.pixel(-1, 3, 3) && !left.pixel(-1, 4, 4), true);
        due("the start behind that", started(left, "V"), 0);
        due("nothing is saved", left.run(9), 2);
        due("error 10", left.job(1), 10);

        BandPress again = printing("PPP", 1, false);
        again.load(9);
        ticked(again, 8);
        ticked(again, 3);
        due("one is not out", again.press(4) - again.press(3), 1);
        due("no start then", again.start(1, false, 9), -1);
        ticked(again, 3);
        typed(again, "P");
        due("a start then", again.start(4, false, 9), 0);
        due("the next job", again.run(9), 1);
        due("its sheets", again.press(4), 4);
        due("are made", ticked(again, 30), 0);
        due("all of them", again.press(3), 4);

        BandPress many = printing("8{P}R", 4, false);
        due("32 sheets", many.press(4), 32);
        many.load(40);
        due("all out", ticked(many, 100), 0);
        due("32 out", many.press(3), 32);
        due("the last one", many.out(31, 0), 31);
        due("its copy", many.out(31, 1), 3);
        due("its page", many.out(31, 2), 7);

        BandPress x = printing("P1 0/P", 2, false);
        due("an error", x.job(1), 4);
        due("its pages are made", x.press(4), 2);
        typed(x, "5");
        due("not all are out", x.start(1, false, 9), -1);
        x.load(9);
        ticked(x, 30);
        due("all are out", x.press(3), 2);
        due("a new one", x.start(1, false, 9), 0);
        due("no error", x.job(1), 0);
        due("no place", x.job(2), 0);
        due("no steps", x.job(4), 0);
        due("none out", x.press(3), 0);
        due("no sheets", x.press(4), 0);
        due("no out(0)", x.out(0, 0), -1);
        due("the tray stays", x.press(2), 7);
        due("the ticks stay", x.press(5), 30);
        x.run(1);
        due("no pages", x.press(4), 0);
        due("nothing to do", x.press(0), 0);
        due("the value", valueOf(x, 0), 5);
        due("a job without sheets is followed at once", x.start(1, false, 9), 0);
    }
}
