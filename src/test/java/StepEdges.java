/** The edges of words, values, errors, and of run(), job(), value() and variable(): each sentence on both sides. */
public final class StepEdges {
    /** Each word with the kinds of the values it needs, the uppermost one last: n number, p procedure, x any. */
    private static final String[][] NEEDS = {
        {":a", "n"}, {"~", "n"}, {"D", "x"}, {"O", "x"}, {"G", "n"}, {"+", "nn"}, {"-", "nn"}, {"*", "nn"}, {"/", "nn"},
        {"%", "nn"}, {"<", "nn"}, {"=", "nn"}, {"X", "xx"}, {"R", "np"}, {"M", "nn"}, {"L", "nn"}, {"T", "nn"},
        {"S", "nn"}, {"?", "npp"}, {"C", "nnnnnn"}, {"Z", ""}, {"N", ""}, {"F", ""}, {"E", ""}, {"W", ""}, {"U", ""},
        {"V", ""}, {"P", ""}, {"5", ""}, {"a", ""}, {"{}", ""}};
    private static final String MILLION = "1000 1000*";
    private static final String ALL = "0 0M256 0L256 192L0 192LF ";
    /** A job whose last word fails with the error of its place in the row, with steps before it. */
    private static final String[] FAILING = {
        "", "1+", "1{}+", MILLION + "1+", "1 0/", "1 ".repeat(33), "1 1L", "201{1 1M}R", "6{" + ALL + "}R", "9{P}R", "1V", "1Q"};

    public static void main(String[] args) {
        tooFewValues();
        wrongKind();
        whatLiesBelow();
        numbers();
        dividing();
        comparing();
        fullStack();
        procedureAsOneWord();
        choice();
        timesOfR();
        twentyProcedures();
        twentyByChoice();
        endOfTheInnermostR();
        qWithoutAnR();
        leastError();
        limitComesLast();
        stepsOfRun();
        endOfRun();
        noneUnderWay();
        wrongStepsOfRun();
        whatOfJob();
        valueEdges();
        variableEdges();
        Check.end();
    }

    private static String path(String word) {
        return word.equals("V") ? "U" : "1 1M";
    }

    private static String values(String kinds, int from, int flipped) {
        StringBuilder text = new StringBuilder();
        for (int k = from; k < kinds.length(); k++) {
            boolean procedure = kinds.charAt(k) == 'p' ^ k == flipped;
            text.append(procedure ? "{}" : "1 ");
        }
        return text.toString();
    }

    // "1: too few values"; "A word needs as many values as told, from the uppermost one back"
    private static void tooFewValues() {
        for (String[] need : NEEDS) {
            String kinds = need[1];
            BandPress x = Check.fine(path(need[0]) + values(kinds, 0, -1) + need[0]);
            int comes = "D".equals(need[0]) || "X".equals(need[0]) ? 2
                : "+-*/%<=~".contains(need[0]) || "5a{}".contains(need[0]) ? 1 : 0;
            Check.due("what " + need[0] + " leaves of the values that it needs", x.job(6), comes);
            for (int less = 1; less <= kinds.length(); less++) {
                String before = path(need[0]) + values(kinds, less, -1);
                Check.fails(before + need[0], 1, before.length());
            }
        }
    }

    // "2: a value of the wrong kind"; "numbers where not told otherwise"; "(of any kind)"
    private static void wrongKind() {
        for (String[] need : NEEDS) {
            for (int k = 0; k < need[1].length(); k++) {
                String before = path(need[0]) + values(need[1], 0, k);
                if (need[1].charAt(k) == 'x') {
                    Check.fine(before + need[0]);
                } else {
                    Check.fails(before + need[0], 2, before.length());
                }
            }
        }
        Check.leaves("1{}X", 1, 2000001);
        Check.leaves("{}1X", 2000000, 1);
        Check.leaves("{}D", 2000000, 2000000);
        Check.leaves("1{}O", 1);
    }

    /** A value further down than needed may be of any kind, and stays. */
    private static void whatLiesBelow() {
        for (String[] need : NEEDS) {
            if (!need[1].isEmpty()) {
                String text = path(need[0]) + "{}9 {}" + values(need[1], 0, -1) + need[0];
                BandPress x = Check.fine(text);
                int size = x.job(6);
                Check.due("the lowest one of " + text, Check.value(x, size - 1), 2000000 + text.indexOf("{}9"));
                Check.due("the one above it", Check.value(x, size - 2), 9);
                Check.due("the one above that", Check.value(x, size - 3), 2000000 + text.indexOf("9 {}") + 2);
            }
        }
    }

    // "numbers from -1000000 to 1000000"; "3: a number beyond the limits"
    private static void numbers() {
        Check.leaves("99999", 99999);
        Check.leaves(MILLION, 1000000);
        Check.leaves(MILLION + "~", -1000000);
        Check.leaves(MILLION + "~~", 1000000);
        Check.leaves(MILLION + "1-1+", 1000000);
        Check.fails(MILLION + "1+", 3, 11);
        Check.leaves(MILLION + "~1+1-", -1000000);
        Check.fails(MILLION + "~1-", 3, 12);
        Check.fails(MILLION + "1~-", 3, 12);
        Check.fails(MILLION + "~1~+", 3, 13);
        Check.leaves("1000~1000*", -1000000);
        Check.fails("1000 1001*", 3, 9);
        Check.fails("1000~1001*", 3, 9);
        Check.leaves("1000~1000~*", 1000000);
        Check.fails("1001~1000~*", 3, 10);
        // a product that would be 0 if it went round behind 32 bits
        Check.fails("65536D*", 3, 6);
        Check.fails(MILLION + "D*", 3, 11);
        Check.fails(MILLION + "D~*", 3, 12);
        Check.leaves(MILLION + "D-", 0);
        Check.leaves(MILLION + "1~/", -1000000);
        Check.leaves(MILLION + "~1~/", 1000000);
        Check.leaves(MILLION + "D%", 0);
        Check.leaves("0~", 0);
    }

    // "4: divided by 0"; "the quotient towards 0, the rest with the sign of what is divided"
    private static void dividing() {
        Check.fails("7 0/", 4, 3);
        Check.fails("7 0%", 4, 3);
        Check.fails("0 0/", 4, 3);
        Check.fails("0 0%", 4, 3);
        Check.leaves("7 1/", 7);
        Check.leaves("7 1~/", -7);
        Check.leaves("0 7/", 0);
        Check.leaves("0 7%", 0);
        Check.leaves("7 2/", 3);
        Check.leaves("7~2/", -3);
        Check.leaves("7 2~/", -3);
        Check.leaves("7~2~/", 3);
        Check.leaves("1~2/", 0);
        Check.leaves("7 2%", 1);
        Check.leaves("7~2%", -1);
        Check.leaves("7 2~%", 1);
        Check.leaves("7~2~%", -1);
        Check.leaves("6~2%", 0);
    }

    // "<: 1 if the one below is less, else 0. = : 1 if two numbers are alike, else 0."
    private static void comparing() {
        Check.leaves("4 5<", 1);
        Check.leaves("5 5<", 0);
        Check.leaves("6 5<", 0);
        Check.leaves("5~5<", 1);
        Check.leaves("1~0<", 1);
        Check.leaves("4 5=", 0);
        Check.leaves("5 5=", 1);
        Check.leaves("6 5=", 0);
        Check.leaves("5~5=", 0);
        Check.leaves("0~0=", 1);
        Check.leaves(MILLION + "D=", 1);
        Check.leaves(MILLION + "D1-X<", 1);
    }

    // "The STACK has at most 32"; "5: the STACK is full"
    private static void fullStack() {
        for (String word : new String[] {"1", "a", "{}", "{1 2}", "D", "12345"}) {
            Check.due("values with " + word, Check.fine(Check.times(31, "1 ") + word).job(6), 32);
            Check.fails(Check.times(32, "1 ") + word, 5, 64);
        }
        String full = Check.times(32, "1 ");
        Check.due("X of a full stack", Check.fine(full + "X").job(6), 32);
        Check.due("~ of a full stack", Check.fine(full + "~").job(6), 32);
        Check.due("+ of a full stack", Check.fine(full + "+").job(6), 31);
        Check.due("O of a full stack", Check.fine(full + "O").job(6), 31);
        Check.due(":a of a full stack", Check.fine(full + ":a").job(6), 31);
        Check.due("P with a full stack", Check.fine(full + "PUVN").job(6), 32);
        Check.fails("33{1}R", 5, 3);
        Check.due("32 by R", Check.fine("32{1}R").job(6), 32);
    }

    // "what stands in a { } is passed over as one word"
    private static void procedureAsOneWord() {
        Check.due("steps of {}", Check.fine("{}").job(4), 1);
        Check.due("steps of {1 2 3}", Check.fine("{1 2 3}").job(4), 1);
        Check.due("steps of {1{2}3}4", Check.fine("{1{2}3}4").job(4), 2);
        Check.leaves("{+Q0 0/}", 2000000);
        Check.leaves("1{ {2} }3", 3, 2000001, 1);
        // places of procedures that stand in others, and the last place a text has
        Check.leaves("1{ {2} }{}?", 2000003);
        Check.leaves(" ".repeat(298) + "{}", 2000298);
    }

    // "the first one is done if the number is not 0, else the second one"
    private static void choice() {
        Check.leaves("0{5}{6}?", 6);
        Check.leaves("1{5}{6}?", 5);
        Check.leaves("1~{5}{6}?", 5);
        Check.leaves(MILLION + "{5}{6}?", 5);
        Check.leaves("0{5}{}?");
        Check.leaves("1{}{6}?");
        Check.leaves("1{5}{6}?7", 7, 5);
        Check.leaves("1{1{5}{6}?8}{}?7", 7, 8, 5);
    }

    // "it is done n times (not at all below 1)"
    private static void timesOfR() {
        Check.leaves("0{5}R");
        Check.leaves("1~{5}R");
        Check.leaves(MILLION + "~{5}R");
        Check.leaves("1{5}R", 5);
        Check.leaves("2{5}R", 5, 5);
        Check.leaves("0{5}R7", 7);
        Check.leaves("3{a1+:a}R a", 3);
        Check.leaves("3{4{a1+:a}R}R a", 12);
        Check.leaves(MILLION + "{}R 7", 7);
        Check.leaves(MILLION + "{ }R 7", 7);
        Check.due("steps of an R that does nothing", Check.fine("0{5}R").job(4), 3);
        Check.due("steps of one time", Check.fine("1{5}R").job(4), 4);
        Check.due("steps of an empty one", Check.fine("9{}R").job(4), 3);
    }

    // "or ? or R (with an n of at least 1) would begin the twenty-first PROCEDURE under way in others"
    private static void twentyProcedures() {
        // each one begins itself again as its last word, till a is what stands before <
        BandPress twenty = Check.fine("{a1+:aDa 20<X R}D1X R");
        Check.due("twenty in each other", twenty.variable(0), 20);
        BandPress more = Check.fails("{a1+:aDa 21<X R}D1X R", 5, 14);
        Check.due("the twenty-first one does not begin", more.variable(0), 20);
        BandPress twice = Check.fails("{a1+:aDa 21<2*X R}D1X R", 5, 16);
        Check.due("nor one that is to be done twice", twice.variable(0), 20);
        // in the twentieth one, R with less than 1 begins none
        Check.fine("{a1+:aDa 20<X R 0{}R 1~{}R}D1X R");
        Check.fails("{a1+:aDa 20<X R 1{}R}D1X R", 5, 19);
        // those that are over are not under way any more
        Check.due("one behind the other", Check.fine("30{1{b1+:b}R}R").variable(1), 30);
        Check.due("thirty by themselves", Check.fine(Check.times(30, "1{}R ") + "5").job(6), 1);
        // "one is under way till its last word is done, with all that this has begun"
        BandPress again = Check.fine("{a1+:aDa 20<X R}D1X R 0:a D1X R");
        Check.due("twenty again, as all had ended", again.variable(0), 20);
    }

    private static void twentyByChoice() {
        BandPress twenty = Check.fine("{a1+:aDa 19<X R 1{b1+:b}{}?}D1X R");
        Check.due("? in the nineteenth one", twenty.variable(1), 19);
        BandPress more = Check.fails("{a1+:aDa 20<X R 1{b1+:b}{}?}D1X R", 5, 26);
        Check.due("? in the twentieth one", more.variable(1), 0);
        Check.fails("{a1+:aDa 20<X R 0{}{}?}D1X R", 5, 21);
        BandPress all = Check.fails("{a1+:aD1X{}?}D1X{}?", 5, 11);
        Check.due("twenty by ?", all.variable(0), 20);
    }

    // "Q: the innermost R that is under way ends at once, with all that is under way in it"
    private static void endOfTheInnermostR() {
        Check.leaves("5{1 Q 2}R 3", 3, 1);
        Check.leaves("1{Q 2}R 3", 3);
        Check.leaves("5{Q}R");
        Check.leaves("3{a1+:a a 3={Q}{}?}R a", 3);
        Check.leaves("2{9{1 Q}R 2}R", 2, 1, 2, 1);
        Check.leaves("9{1 9{Q}R Q}R", 1);
        Check.leaves("3{1{1{Q 4}{}? 5}{}? 6}R 7", 7);
        Check.leaves("3{1{1{Q 4}{}? 5}R 6}R 7", 7, 6, 6, 6);
        Check.due("steps up to Q", Check.fine("5{1 Q 2}R").job(4), 5);
        // what Q has ended is not under way any more
        Check.due("Q makes room", Check.fine("30{9{1{Q}{}?}R b1+:b}R").variable(1), 30);
    }

    // "11: Q without an R"
    private static void qWithoutAnR() {
        Check.fails("Q", 11, 0);
        Check.fails("1{Q}{}?", 11, 2);
        Check.fails("1{}R Q", 11, 5);
        Check.fails("1{5}R Q", 11, 6);
        Check.fails("0{5}R Q", 11, 6);
        Check.fails("5{Q}RQ", 11, 5);
        Check.fails("1{1{5}RQ}{}?", 11, 7);
        Check.fine("1{1{Q}{}?}R");
    }

    // "the least of those that are the case (and its place is that of the word)"
    private static void leastError() {
        String far = "99999 99999T";
        Check.fails("L", 1, 0);
        Check.fails("{}L", 1, 2);
        Check.fails("{}?", 1, 2);
        Check.fails("{}1L", 2, 3);
        Check.fails("{}0/", 2, 3);
        Check.fails(far + " 2 2L", 3, 16);
        Check.fails(far + " 2 2 2 2 2 2C", 3, 24);
        Check.fails("200{1 1M}R" + far + " 2 2M", 3, 26);
        Check.fails("200{1 1M}R" + far + "{}2M", 2, 25);
        Check.fails("200{1 1M}RM", 1, 10);
        Check.fails("{a1+:aDa 20<X R 1 1R}D1X R", 2, 19);
        Check.fails("{a1+:aDa 20<X R{}{}?}D1X R", 2, 19);
        Check.fails("{a1+:aDa 20<X ROR}D1X R", 1, 16);
    }

    // "12: a STEP more than the limit", the greatest one of all
    private static void limitComesLast() {
        for (int error = 1; error <= 11; error++) {
            String text = FAILING[error];
            BandPress plain = Check.done(text);
            Check.due("error of " + text, plain.job(1), error);
            int steps = plain.job(4);
            for (int limit = steps; limit <= steps + 1; limit++) {
                BandPress x = Check.played(Check.begun(text, 1, false, limit).then(Check::runOut));
                Check.due("error of " + text + " with limit " + limit, x.job(1), error);
            }
            BandPress less = Check.played(Check.begun(text, 1, false, Math.max(1, steps - 1)).then(Check::runOut));
            Check.due("error of " + text + " with a step less", less.job(1), steps == 1 ? error : 12);
        }
        for (int limit = 1; limit <= 7; limit++) {
            BandPress x = Check.played(Check.begun("2{1 O}R", 1, false, limit));
            Check.due("2{1 O}R with limit " + limit, x.run(9), limit < 7 ? 2 : 1);
            Check.due("its error", x.job(1), limit < 7 ? 12 : 0);
            Check.due("its steps", x.job(4), limit);
            Check.due("its place", x.job(2), new int[] {0, 1, 6, 2, 4, 2, 4, 0}[limit]);
        }
    }

    // "At most n STEPS: 0 if the job goes on"
    private static void stepsOfRun() {
        BandPress x = Check.played(Check.begun("9998{1O}R1"));
        Check.due("run(1)", Check.run(x, 1), 0);
        Check.due("is one step", x.job(4), 1);
        Check.due("run(5000)", Check.run(x, 5000), 0);
        Check.due("is 5000 steps", x.job(4), 5001);
        Check.due("run(4999)", Check.run(x, 4999), 0);
        Check.due("is 4999 steps", x.job(4), 10000);
        BandPress left = Check.played(Check.begun("1 2 3"));
        Check.due("run(2) of three", Check.run(left, 2), 0);
        Check.due("the job is under way", left.job(0), 1);
        Check.due("run(5000) of the last one", Check.run(left, 5000), 1);
        Check.due("three steps", left.job(4), 3);
        BandPress error = Check.played(Check.begun("1+2"));
        Check.due("run(1) before the error", Check.run(error, 1), 0);
        Check.due("no error yet", error.job(1), 0);
        Check.due("run(1) with the error", Check.run(error, 1), 2);
        BandPress limit = Check.played(Check.begun("1 2", 1, false, 1));
        Check.due("as many as the limit", Check.run(limit, 1), 0);
        Check.due("no error 12 yet", limit.job(1), 0);
        Check.due("one more", Check.run(limit, 1), 2);
    }

    // "1 if it has ended (behind its last word, and all that is under way; at once if it has no word)"
    private static void endOfRun() {
        String[] texts = {"1 2 3", "1 2 3   ", "1{2 3}{}?", "2{1O}R", "0{1}{}?", "0{1}R", "9{}R", "1{1{5}R}R", "5{1Q2}R", "{1 2}"};
        int[] steps = {3, 3, 6, 7, 4, 3, 3, 7, 5, 1};
        for (int k = 0; k < texts.length; k++) {
            BandPress exact = Check.played(Check.begun(texts[k]));
            Check.due("just the steps of " + texts[k], Check.run(exact, steps[k]), 1);
            Check.due("are counted", exact.job(4), steps[k]);
            if (steps[k] > 1) {
                BandPress less = Check.played(Check.begun(texts[k]));
                Check.due("one less for " + texts[k], Check.run(less, steps[k] - 1), 0);
                Check.due("the job is under way", less.job(0), 1);
                Check.due("and the last one", Check.run(less, 1), 1);
            }
        }
        for (String text : new String[] {"", " ", "   "}) {
            BandPress x = Check.played(Check.begun(text, 4, true, 1));
            Check.due("'" + text + "' is under way", x.job(0), 1);
            Check.due("run(1) of it", Check.run(x, 1), 1);
            Check.due("it has ended", x.job(0), 2);
            Check.due("without a step", x.job(4), 0);
            Check.due("without an error", x.job(1), 0);
        }
    }

    // "IllegalStateException: none is under way"
    private static void noneUnderWay() {
        Check.State[] states = {
            new Check.State("a new object", Check.typed("1 2")),
            new Check.State("a fault", Check.typed("A").then(x -> x.start(1, false, 9)).then(Check.typed("7"))),
            new Check.State("an ended job", Check.ended("9G 1 1M U 5:a P", 1, false).then(Check.typed("7"))),
            new Check.State("a failed job", Check.ended("1 2 3{1 0/}R", 1, false).then(Check.typed("7"))),
            new Check.State("a job at its limit", Check.begun("1 2", 1, false, 1).then(x -> x.run(5)))};
        for (Check.State state : states) {
            for (int n : new int[] {1, 5000}) {
                state.unchangedBy("run(" + n + ")", x -> Check.run(x, n), Check.STATE);
            }
        }
    }

    // "IllegalArgumentException: n is not 1 .. 5000"
    private static void wrongStepsOfRun() {
        Check.State[] states = {
            new Check.State("a job that has begun", Check.begun("1 2 3")),
            new Check.State("a job without a word", Check.begun("")),
            new Check.State("a job half done", Check.begun("9G 4 4M 3{P U 5:a 6}R").then(x -> x.run(9)))};
        for (Check.State state : states) {
            for (int n : new int[] {0, 5001, -1, Integer.MIN_VALUE, Integer.MAX_VALUE}) {
                state.unchangedBy("run(" + n + ")", x -> Check.run(x, n), Check.ARGUMENT);
            }
        }
    }

    // "NONE for another what"; what each what tells
    private static void whatOfJob() {
        String text = "P 5G{}1 2 0 0M64 0L64 16L0 16LF 1 1M2 2L 0/";
        Check.Play play = Check.ended(text, 1, false);
        BandPress x = Check.played(play);
        int[] due = {2, 4, text.indexOf('/'), 1, 26, 4, 4, 2, 5};
        for (int what = 0; what < due.length; what++) {
            Check.due("job(" + what + ")", x.job(what), due[what]);
        }
        Check.State state = new Check.State("a failed job", play);
        for (int what : new int[] {-1, 9, 10, Integer.MIN_VALUE, Integer.MAX_VALUE}) {
            state.unchangedBy("job(" + what + ")", y -> y.job(what), -1);
        }
        for (int what = 0; what < due.length; what++) {
            int w = what;
            state.unchangedBy("job(" + what + ")", y -> y.job(w), due[what]);
        }
        BandPress begun = Check.played(Check.begun("1"));
        Check.due("a job under way", begun.job(0), 1);
        begun.run(1);
        Check.due("a job that has ended", begun.job(0), 2);
    }

    // "NoSuchElementException: there is none such"; "of a PROCEDURE 2000000 and the place of its {"
    private static void valueEdges() {
        Check.Play three = Check.ended("5 {} 6", 1, false);
        BandPress x = Check.played(three);
        Check.due("value(0)", Check.value(x, 0), 6);
        Check.due("value(1)", Check.value(x, 1), 2000002);
        Check.due("value(2)", Check.value(x, 2), 5);
        Check.State state = new Check.State("three values", three);
        for (int k : new int[] {3, 32, -1, Integer.MIN_VALUE, Integer.MAX_VALUE}) {
            state.unchangedBy("value(" + k + ")", y -> Check.value(y, k), Check.ELEMENT);
        }
        BandPress full = Check.played(Check.ended("7 31{1}R", 1, false));
        Check.due("the lowest of 32", Check.value(full, 31), 7);
        Check.due("none below it", Check.value(full, 32), Check.ELEMENT);
        BandPress gone = Check.played(Check.ended("7 O", 1, false));
        Check.due("none on an empty stack", Check.value(gone, 0), Check.ELEMENT);
        Check.leaves("{}", 2000000);
        Check.leaves(MILLION + "~", -1000000);
    }

    // "Variable k (0 a .. 25 z); 0 if there is none such"
    private static void variableEdges() {
        Check.Play play = Check.ended("7:a 8~:z 9:b 6:y", 1, false);
        BandPress x = Check.played(play);
        Check.due("a", x.variable(0), 7);
        Check.due("b", x.variable(1), 9);
        Check.due("c", x.variable(2), 0);
        Check.due("y", x.variable(24), 6);
        Check.due("z", x.variable(25), -8);
        Check.State state = new Check.State("four variables", play);
        for (int k : new int[] {-1, 26, 97, Integer.MIN_VALUE, Integer.MAX_VALUE}) {
            state.unchangedBy("variable(" + k + ")", y -> y.variable(k), 0);
        }
        for (char letter = 'a'; letter <= 'z'; letter++) {
            BandPress one = Check.fine("5:" + letter + " " + letter);
            for (int k = 0; k < 26; k++) {
                Check.due("variable " + k + " behind :" + letter, one.variable(k), k == letter - 'a' ? 5 : 0);
            }
            Check.due("the value of " + letter, Check.value(one, 0), 5);
        }
        Check.leaves("5:a 6:a a", 6);
        Check.leaves(MILLION + ":a a", 1000000);
    }
}
