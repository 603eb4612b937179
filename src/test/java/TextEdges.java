/** The edges of the tape, of a text's faults, and of start(): each sentence that names one, on both sides. */
public final class TextEdges {
    private static final String WORDS = "+-*/%~<=DXO?RQMLCZNFEWTSGUVP";
    private static final int[] OUTSIDE_1_TO_8 = {0, 9, -1, 16, 257, Integer.MIN_VALUE, Integer.MAX_VALUE};

    public static void main(String[] args) {
        aNewObject();
        bytesAtATime();
        bytesThatCanBeTyped();
        highestByteFirst();
        lengthOfTheTape();
        copies();
        limit();
        startUnderWay();
        startWithSheetsLeft();
        whatBeginsAnew();
        textWithAFault();
        wordsThatAreNone();
        colonWithoutALetter();
        sixthDigit();
        closingBrace();
        ninthBrace();
        openBrace();
        firstFault();
        Check.end();
    }

    private static int started(String text) {
        return Check.played(Check.typed(text)).start(1, false, 9);
    }

    private static void fault(String text, int answer) {
        Check.due("start of '" + text + "'", started(text), answer);
    }

    // "makes an object in the state that the terms give"
    private static void aNewObject() {
        BandPress x = new BandPress();
        int[] job = {0, 0, 0, 0, 0, 0, 0, 0, 16};
        for (int what = 0; what < job.length; what++) {
            Check.due("job(" + what + ") of a new object", x.job(what), job[what]);
        }
        for (int what = 0; what < 7; what++) {
            Check.due("press(" + what + ") of a new object", x.press(what), 0);
        }
        for (int k = 0; k < 4; k++) {
            Check.due("the sheet in section " + k + " of a new object", x.section(k, 0), -1);
            Check.due("its sides", x.section(k, 1), 0);
            Check.due("whether it sticks", x.section(k, 2), 0);
        }
        for (int k = 0; k < 26; k++) {
            Check.due("variable " + k + " of a new object", x.variable(k), 0);
        }
        Check.due("value(0) of a new object", Check.value(x, 0), Check.ELEMENT);
        Check.due("pixel of a new object", x.pixel(-1, 0, 0), false);
        Check.due("page 0 of a new object", x.band(0, 0), -1);
        Check.due("out(0, 0) of a new object", x.out(0, 0), -1);
        Check.due("the cover of a new object was shut", x.cover(false), false);
        Check.due("the tape of a new object is empty", x.start(1, false, 1), 0);
        Check.due("a text without a word", x.run(1), 1);
    }

    // "The n (1 .. 8) lowest bytes of word .. false, changing nothing, for another n"
    private static void bytesAtATime() {
        long ones = Check.word("1 1 1 1 ");
        int[] values = {0, 0, 1, 1, 2, 2, 3, 3, 4};
        for (int n = 1; n <= 8; n++) {
            BandPress x = new BandPress();
            Check.due("type(.., " + n + ")", x.type(ones, n), true);
            Check.due("start behind it", x.start(1, false, 9), 0);
            Check.run(x, 9);
            Check.due("values in " + n + " bytes", x.job(6), values[n]);
        }
        Check.State state = new Check.State("a tape with 12", Check.typed("12"));
        for (int n : OUTSIDE_1_TO_8) {
            state.unchangedBy("type(.., " + n + ")", x -> x.type(ones, n) ? 1 : 0, 0);
        }
    }

    // "a byte that is not 32 .. 126"
    private static void bytesThatCanBeTyped() {
        for (int sign = 0; sign < 256; sign++) {
            boolean plain = sign >= 32 && sign <= 126;
            Check.due("type of byte " + sign, new BandPress().type(sign, 1), plain);
            for (int k = 0; k < 8; k++) {
                long mask = 255L << 8 * k;
                long word = Check.word("        ") & ~mask | (long) sign << 8 * k;
                Check.due("type of eight, one " + sign, new BandPress().type(word, 8), plain);
                Check.due("type of those below it", k == 0 || new BandPress().type(word, k), true);
            }
        }
        Check.State state = new Check.State("a tape with 12", Check.typed("12"));
        for (int sign : new int[] {0, 31, 127, 128, 255}) {
            state.unchangedBy("type of byte " + sign, x -> x.type(sign, 1) ? 1 : 0, 0);
            state.unchangedBy("type of 3 and " + sign, x -> x.type(0x3300L | sign, 2) ? 1 : 0, 0);
            state.unchangedBy("type of " + sign + " and 3", x -> x.type((long) sign << 8 | 0x33L, 2) ? 1 : 0, 0);
        }
        Check.due("bytes above the n lowest ones", new BandPress().type(-1L << 8 | 0x31L, 1), true);
    }

    // "the highest first"
    private static void highestByteFirst() {
        BandPress x = new BandPress();
        x.type(Check.word("1 2 3 4 "), 8);
        x.type(Check.word("56"), 2);
        x.start(1, false, 9);
        Check.run(x, 9);
        Check.due("the last value", Check.value(x, 0), 56);
        Check.due("the first value", Check.value(x, 4), 1);
    }

    // "THE TAPE has at most 300 characters", "or if it would have more than 300"
    private static void lengthOfTheTape() {
        for (int n = 1; n <= 8; n++) {
            int size = n;
            String part = " ".repeat(n);
            Check.Play fits = Check.typed(" ".repeat(300 - n));
            Check.due("the last " + n + " of 300", Check.played(fits).type(Check.word(part), n), true);
            Check.State over = new Check.State("a tape of " + (301 - n), Check.typed("7" + " ".repeat(300 - n)));
            over.unchangedBy("type up to 301", x -> x.type(Check.word(part), size) ? 1 : 0, 0);
        }
        BandPress less = Check.played(Check.typed(" ".repeat(299)));
        Check.due("two more than 299", less.type(Check.word("12"), 2), false);
        Check.due("one more than 299", less.type(Check.word("3"), 1), true);
        Check.due("one more than 300", less.type(Check.word("4"), 1), false);
        Check.due("start of 300", less.start(1, false, 9), 0);
        Check.due("300 on the tape, which is empty then", Check.type(less, " ".repeat(299) + "5"), true);
        Check.due("but not 301", less.type(Check.word("6"), 1), false);
        Check.run(less, 9);
        Check.due("the text's last character", Check.value(less, 0), 3);
        Check.due("start of the next 300", less.start(1, false, 9), 0);
        Check.run(less, 9);
        Check.due("the next text's last character", Check.value(less, 0), 5);
    }

    // "with 1 to 4 copies .. NONE, changing nothing, for another number"
    private static void copies() {
        for (int copies = 1; copies <= 4; copies++) {
            BandPress one = Check.played(Check.ended("PPP", copies, false));
            Check.due("sheets of " + copies + " copies", one.press(4), 3 * copies);
            BandPress two = Check.played(Check.ended("PPP", copies, true));
            Check.due("two-sided sheets of " + copies + " copies", two.press(4), 2 * copies);
        }
        Check.State state = new Check.State("7 behind a job", Check.ended("1 2{}", 1, false).then(Check.typed("7")));
        for (int copies : new int[] {0, 5, -1, Integer.MIN_VALUE, Integer.MAX_VALUE}) {
            state.unchangedBy("start of copies " + copies, x -> x.start(copies, false, 9), -1);
            state.unchangedBy("two-sided start of copies " + copies, x -> x.start(copies, true, 9), -1);
        }
    }

    // "a limit of 1 to 20000 STEPS"
    private static void limit() {
        BandPress one = Check.played(Check.begun("5", 1, false, 1));
        Check.due("one step of limit 1", one.run(9), 1);
        BandPress two = Check.played(Check.begun("5 6", 1, false, 1));
        Check.due("a second step of limit 1", two.run(9), 2);
        Check.due("is error 12", two.job(1), 12);
        BandPress most = Check.played(Check.begun("9998{1O}R1", 1, false, 20000));
        BandPress more = Check.played(Check.begun("9999{1O}R", 1, false, 20000));
        for (int k = 0; k < 3; k++) {
            Check.due("5000 steps of 20000", most.run(5000), 0);
            Check.due("5000 steps of 20001", more.run(5000), 0);
        }
        Check.due("20000 steps", most.run(5000), 1);
        Check.due("are counted", most.job(4), 20000);
        Check.due("20000 steps of 20001", more.run(5000), 0);
        Check.due("no error yet", more.job(1), 0);
        Check.due("step 20001", more.run(1), 2);
        Check.due("is beyond the limit", more.job(1), 12);
        Check.due("at its place", more.job(2), 6);
        Check.due("and is not done", more.job(4), 20000);
        Check.State state = new Check.State("7 behind a job", Check.ended("1 2{}", 1, false).then(Check.typed("7")));
        for (int limit : new int[] {0, 20001, -1, Integer.MIN_VALUE, Integer.MAX_VALUE}) {
            state.unchangedBy("start with limit " + limit, x -> x.start(1, false, limit), -1);
        }
    }

    // "if a job is under way"
    private static void startUnderWay() {
        Check.State begun = new Check.State("a job that has begun", Check.begun("1 2").then(Check.typed("7")));
        begun.unchangedBy("start", x -> x.start(1, false, 9), -1);
        Check.State empty = new Check.State("a job without a word", Check.begun("").then(Check.typed("7")));
        empty.unchangedBy("start", x -> x.start(1, false, 9), -1);
        Check.State half = new Check.State("a job half done",
            Check.begun("9G 4 4M 3{P U 5:a 6}R").then(x -> x.run(9)).then(Check.typed("A")));
        half.unchangedBy("start", x -> x.start(4, true, 20000), -1);
        BandPress x = Check.played(Check.begun("1"));
        Check.due("before the last word is done", x.start(1, false, 9), -1);
        x.run(1);
        Check.due("behind it", x.start(1, false, 9), 0);
        BandPress failed = Check.played(Check.ended("+", 1, false));
        Check.due("behind an error", failed.start(1, false, 9), 0);
    }

    // "or not all its SHEETS are out"
    private static void startWithSheetsLeft() {
        Check.Play two = Check.ended("PP", 1, false).then(Check.typed("7"));
        new Check.State("no sheet out", two).unchangedBy("start", x -> x.start(1, false, 9), -1);
        Check.Play inside = two.then(x -> x.load(5)).then(x -> x.tick(9));
        new Check.State("two inside", inside).unchangedBy("start", x -> x.start(1, false, 9), -1);
        Check.Play last = inside.then(x -> x.tick(1));
        Check.due("one is out", Check.played(last).press(3), 1);
        new Check.State("one of two out", last).unchangedBy("start", x -> x.start(1, false, 9), -1);
        BandPress x = Check.played(last.then(y -> y.tick(1)));
        Check.due("two are out", x.press(3), 2);
        Check.due("start then", x.start(1, false, 9), 0);
        BandPress none = Check.played(Check.ended("1 2+", 4, true));
        Check.due("start behind a job without a page", none.start(1, false, 9), 0);
    }

    // "(The pages and SHEETS of the job before are gone; variables are 0, the matrix, GREY (16) and CLIP as at first.)"
    private static void whatBeginsAnew() {
        String before = "5:a 6:z 7 8 {} UU 32 8S 40 40T 3G 0 0M9 0L9 9LW 0 0M9 0L9 9LF P 1 1M2 2LV";
        BandPress x = Check.played(Check.ended(before, 2, false).then(y -> y.load(9)).then(y -> y.tick(40)));
        Check.due("both are out", x.press(3), 2);
        Check.due("the tape is empty then", x.start(1, false, 9), 0);
        int[] job = {1, 0, 0, 0, 0, 0, 0, 0, 16};
        for (int what = 0; what < job.length; what++) {
            Check.due("job(" + what + ") of the next job", x.job(what), job[what]);
        }
        Check.due("variable a", x.variable(0), 0);
        Check.due("variable z", x.variable(25), 0);
        Check.due("no page is kept", x.band(0, 0), -1);
        Check.due("no byte", x.octet(0, 0, 0), -1);
        Check.due("no sheet", x.press(4), 0);
        Check.due("none is out", x.press(3), 0);
        Check.due("not the first one", x.out(0, 0), -1);
        Check.due("nothing to make", x.press(0), 0);
        Check.due("no value", Check.value(x, 0), Check.ELEMENT);
        String next = "0 0M64 0L64 64L0 64LF a z";
        long[] plain = paperless(Check.look(Check.ended(next, 1, false)));
        String[] jobs = {before, "32 8S", "40 0T", "0 40T", "3G", "0 0M9 0L9 9LW", "5:a", "6:z", "7 8{}", "1 1M2 2LZ", "P" + next, "1 +"};
        for (String old : jobs) {
            Check.Play first = Check.ended(old, 1, false).then(y -> y.load(9)).then(y -> y.tick(40));
            long[] behind = paperless(Check.look(first.then(Check.ended(next, 1, false))));
            Check.due("what is otherwise behind " + old, Check.differs(plain, behind), -1);
            long[] fresh = paperless(Check.look(Check.begun(next)));
            long[] begun = paperless(Check.look(first.then(Check.begun(next))));
            Check.due("what is otherwise at the start behind " + old, Check.differs(fresh, begun), -1);
        }
        // the next job's sheets are all made, though those of the job before bore the same numbers
        BandPress again = Check.played(Check.ended("PPP", 2, false).then(y -> y.load(20)).then(y -> y.tick(40)));
        Check.due("six are out", again.press(3), 6);
        Check.type(again, "PPPPP");
        Check.due("start of the next ones", again.start(1, true, 9), 0);
        Check.due("none is out", again.press(3), 0);
        Check.run(again, 9);
        Check.due("three to make", again.press(4), 3);
        Check.due("to be made by a press that is cold again", again.press(0), 1);
        Check.due("all out", Check.tick(again, 60), 0);
        Check.due("three out", again.press(3), 3);
        Check.due("the last one's number", again.out(2, 0), 2);
        Check.due("its first page", again.out(2, 2), 4);
        Check.due("its copy", again.out(2, 1), 0);
        Check.due("from the tray", again.press(2), 11);
        BandPress saved = Check.played(Check.ended("UU", 1, false).then(Check.ended("V", 1, false)));
        Check.due("nothing is saved", saved.job(1), 10);
        BandPress path = Check.played(Check.ended("1 1M", 1, false).then(Check.ended("2 2L", 1, false)));
        Check.due("there is no path", path.job(1), 6);
    }

    /** Heat, tray and ticks go on from job to job. */
    private static long[] paperless(long[] look) {
        look[10] = 0L;
        look[11] = 0L;
        look[14] = 0L;
        return look;
    }

    // "1 more than the place of its FAULT: then it does not begin (the tape is empty, the job before stays)"
    private static void textWithAFault() {
        Check.Play job = Check.ended("5:a 1 2{} 9G P 4 4M8 8L+", 2, true).then(x -> x.load(3)).then(x -> x.tick(40));
        Check.due("all are out", Check.played(job).press(0), 0);
        Check.State state = new Check.State("a job that failed", job);
        state.unchangedBy("a fault", x -> Check.type(x, "1 2 A") ? x.start(3, false, 7) : 0, 5);
        state.unchangedBy("a fault at the end", x -> Check.type(x, "{{}") ? x.start(3, false, 7) : 0, 4);
        Check.State none = new Check.State("a new object", x -> { });
        none.unchangedBy("a fault", x -> Check.type(x, "}") ? x.start(1, false, 9) : 0, 1);
        BandPress x = Check.played(Check.typed("1 A"));
        Check.due("a fault", x.start(1, false, 9), 3);
        Check.due("no job yet", x.job(0), 0);
        Check.due("none to run", Check.run(x, 1), Check.STATE);
        Check.type(x, "8");
        Check.due("what is typed then stands alone", x.start(1, false, 9), 0);
        Check.run(x, 9);
        Check.due("as it tells", Check.value(x, 0), 8);
    }

    // "a word that is none"; "blanks are skipped, each other character is a word"
    private static void wordsThatAreNone() {
        for (char sign = 32; sign <= 126; sign++) {
            boolean word = sign == ' ' || sign >= '0' && sign <= '9' || sign >= 'a' && sign <= 'z' || WORDS.indexOf(sign) >= 0;
            int answer = word ? 0 : sign == '{' || sign == ':' ? 4 : 3;
            fault("1 " + sign, answer);
            fault(sign + (sign == ':' ? "a" : sign == '{' ? "}" : " "), word || sign == '{' || sign == ':' ? 0 : 1);
        }
        fault("", 0);
        fault(" ", 0);
        fault(" ".repeat(300), 0);
        fault(" ".repeat(299) + "A", 300);
        fault(" ".repeat(299) + "1", 0);
    }

    // "a : without a letter behind it (that is what can't stand there, or the text's end)"
    private static void colonWithoutALetter() {
        for (char sign = 32; sign <= 126; sign++) {
            fault("1:" + sign + " ", sign >= 'a' && sign <= 'z' ? 0 : 3);
        }
        fault(":", 2);
        fault("1 :", 4);
        fault(":a:", 4);
        fault("{:}", 3);
        fault(" ".repeat(299) + ":", 301);
        fault(" ".repeat(298) + ":a", 0);
    }

    // "a sixth digit"; "digits that follow each other are one"
    private static void sixthDigit() {
        fault("1", 0);
        fault("12345", 0);
        fault("123456", 6);
        fault("1234567", 6);
        fault("00000", 0);
        fault("000000", 6);
        fault("12345 67890", 0);
        fault("12345a67890", 0);
        fault("12345 678901", 12);
        fault("12345{67890}12345", 0);
        fault("12345{678901}", 12);
        Check.leaves("12345 67890", 67890, 12345);
        Check.leaves("00007", 7);
        Check.leaves("1 2", 2, 1);
        Check.leaves("12", 12);
    }

    // "a } without its {"
    private static void closingBrace() {
        fault("{}", 0);
        fault("}", 1);
        fault("}{", 1);
        fault("{}}", 3);
        fault("{{}}}", 5);
        fault("{}{}", 0);
        fault("{} }", 4);
    }

    // "{ and } go in pairs, at most 8 in each other"; "a ninth { in others"
    private static void ninthBrace() {
        for (int depth = 1; depth <= 10; depth++) {
            fault("{".repeat(depth) + "}".repeat(depth), depth <= 8 ? 0 : 9);
        }
        fault("{}".repeat(20), 0);
        fault("{".repeat(7) + "{}{}{}" + "}".repeat(7), 0);
        fault("{".repeat(7) + "{}{{}}" + "}".repeat(7), 11);
        fault("{".repeat(8) + "}".repeat(8) + "{".repeat(8) + "}".repeat(8), 0);
        fault("{".repeat(8) + "}".repeat(8) + "{".repeat(9) + "}".repeat(9), 25);
        Check.leaves("1{2{3{4{5{6{7{8{9}}}}}}}}", 2000001, 1);
    }

    // "the text's length for a { without its }"
    private static void openBrace() {
        fault("{", 2);
        fault("{ ", 3);
        fault("{{}", 4);
        fault("{}{", 4);
        fault("{".repeat(8), 9);
        fault("{" + " ".repeat(299), 301);
        fault("{" + " ".repeat(298) + "}", 0);
    }

    // "FAULTS of a text: the first character that can't stand there"
    private static void firstFault() {
        fault("A B", 1);
        fault("1 A}", 3);
        fault("} A", 1);
        fault("{A", 2);
        fault("{:", 3);
        fault("{123456", 7);
        fault(":A", 2);
        fault("A:", 1);
        fault("::", 2);
        fault(":}", 2);
        fault("{{{{{{{{{A", 9);
    }
}
