import java.util.ArrayList;
import java.util.Arrays;
import java.util.List;
import java.util.NoSuchElementException;
import java.util.function.ToLongFunction;

/** What the edge tests share: calls on new objects, and a look at all that an object tells. */
final class Check {
    /** What calls that throw count as. */
    static final int STATE = 901;
    static final int ARGUMENT = 902;
    static final int ELEMENT = 903;

    /** So many questions an object gets, as it answers for 512 calls alone. */
    private static final int QUESTIONS = 250;

    private static int wrong = 0;
    private static int asked = 0;

    private Check() {
    }

    /** Calls on an object. */
    interface Play {
        void on(BandPress x);

        default Play then(Play next) {
            return x -> {
                on(x);
                next.on(x);
            };
        }
    }

    static void due(String what, long got, long want) {
        asked++;
        if (got != want) {
            wrong++;
            System.out.println(what + " answered " + got + ", due is " + want);
        }
    }

    static void due(String what, boolean got, boolean want) {
        due(what, got ? 1L : 0L, want ? 1L : 0L);
    }

    static void end() {
        System.out.println(wrong == 0 ? "all answers are as due" : wrong + " of " + asked + " answers are not as due");
        if (wrong != 0) {
            System.exit(1);
        }
    }

    static BandPress played(Play play) {
        BandPress x = new BandPress();
        play.on(x);
        return x;
    }

    static long word(String part) {
        long word = 0L;
        for (int k = 0; k < part.length(); k++) {
            word = word << 8 | part.charAt(k);
        }
        return word;
    }

    static boolean type(BandPress x, String text) {
        boolean all = true;
        for (int at = 0; at < text.length(); at += 8) {
            String part = text.substring(at, Math.min(text.length(), at + 8));
            all &= x.type(word(part), part.length());
        }
        return all;
    }

    static Play typed(String text) {
        return x -> due("type of " + text, type(x, text), true);
    }

    static Play begun(String text, int copies, boolean twoSided, int limit) {
        return typed(text).then(x -> due("start of " + text, x.start(copies, twoSided, limit), 0));
    }

    static Play begun(String text) {
        return begun(text, 1, false, 20000);
    }

    static void runOut(BandPress x) {
        for (int k = 0; k < 5 && x.job(0) == 1; k++) {
            x.run(5000);
        }
    }

    static Play ended(String text, int copies, boolean twoSided) {
        return begun(text, copies, twoSided, 20000).then(Check::runOut);
    }

    static BandPress done(String text) {
        return played(ended(text, 1, false));
    }

    static int run(BandPress x, int n) {
        try {
            return x.run(n);
        } catch (IllegalStateException e) {
            return STATE;
        } catch (IllegalArgumentException e) {
            return e.getClass() == IllegalArgumentException.class ? ARGUMENT : 0;
        }
    }

    static int tick(BandPress x, int n) {
        try {
            return x.tick(n);
        } catch (IllegalArgumentException e) {
            return e.getClass() == IllegalArgumentException.class ? ARGUMENT : 0;
        }
    }

    static int value(BandPress x, int k) {
        try {
            return x.value(k);
        } catch (NoSuchElementException e) {
            return ELEMENT;
        }
    }

    /** The job ends without an error. */
    static BandPress fine(String text) {
        BandPress x = done(text);
        due("state of " + text, x.job(0), 2);
        due("error of " + text, x.job(1), 0);
        due("place without an error of " + text, x.job(2), 0);
        return x;
    }

    static void leaves(String text, int... values) {
        BandPress x = fine(text);
        due("values of " + text, x.job(6), values.length);
        for (int k = 0; k < values.length; k++) {
            due("value " + k + " of " + text, value(x, k), values[k]);
        }
        due("value behind the last one of " + text, value(x, values.length), ELEMENT);
    }

    /** The job ends with the error at the place, and the word there has done nothing. */
    static BandPress fails(String text, int error, int place) {
        BandPress x = done(text);
        due("state of " + text, x.job(0), 2);
        due("error of " + text, x.job(1), error);
        due("place of the error of " + text, x.job(2), place);
        int steps = x.job(4);
        Play before = steps == 0 ? begun(text) : begun(text).then(y -> run(y, Math.min(5000, steps)));
        if (steps <= 5000) {
            long[] was = look(before);
            long[] is = look(begun(text).then(Check::runOut));
            // the job has ended, so that these differ: job(0), job(1), job(2), press(0), press(4)
            for (int at : new int[] {0, 1, 2, 9, 13}) {
                was[at] = is[at];
            }
            due("what the failing word of " + text + " has changed", differs(was, is), -1);
        }
        return x;
    }

    static String times(int n, String text) {
        return text.repeat(n);
    }

    static String brief(String text) {
        return text.length() < 40 ? text : text.substring(0, 40) + "..";
    }

    /** All that an object tells which was played to; the pages' bytes are known by their pixels. */
    static long[] look(Play play) {
        List<ToLongFunction<BandPress>> questions = questions(played(play).job(3));
        long[] answers = new long[questions.size()];
        BandPress x = null;
        for (int k = 0; k < answers.length; k++) {
            x = k % QUESTIONS == 0 ? played(play) : x;
            answers[k] = questions.get(k).applyAsLong(x);
        }
        return answers;
    }

    private static List<ToLongFunction<BandPress>> questions(int pages) {
        List<ToLongFunction<BandPress>> all = new ArrayList<>();
        for (int what = 0; what < 9; what++) {
            int w = what;
            all.add(x -> x.job(w));
        }
        for (int what = 0; what < 7; what++) {
            int w = what;
            all.add(x -> x.press(w));
        }
        for (int k = 0; k < 33; k++) {
            int at = k;
            all.add(x -> value(x, at));
            all.add(x -> x.variable(at));
        }
        for (int k = 0; k < 12; k++) {
            int at = k;
            all.add(x -> x.section(at / 3, at % 3));
        }
        for (int k = 0; k < 128; k++) {
            int at = k;
            all.add(x -> x.out(at / 4, at % 4));
        }
        for (int k = -3072; k < pages * 3072; k++) {
            int at = k;
            all.add(x -> x.pixel(Math.floorDiv(at, 3072), Math.floorMod(at, 64), Math.floorMod(at, 3072) / 64) ? 1L : 0L);
        }
        return all;
    }

    /** The first question that two looks answer otherwise; -1 if there is none such. */
    static int differs(long[] one, long[] other) {
        return Arrays.mismatch(one, other);
    }

    /** What can show later what no call tells at once: the tape, the row of ticks, what is saved, the place. */
    private static final Play[] LATER = {
        x -> { },
        x -> x.tick(1),
        x -> x.tick(2),
        Check::runOut,
        x -> {
            x.start(1, false, 99);
            runOut(x);
        },
        x -> {
            runOut(x);
            x.cover(false);
            for (int k = 0; k < 4; k++) {
                x.stick(k, false);
                x.take(k);
            }
            x.load(40);
            x.tick(90);
            x.start(1, false, 99);
            runOut(x);
        }};

    /** A state of an object, with what it tells now and later. */
    static final class State {
        final String name;
        final Play play;
        private final List<long[]> looks = new ArrayList<>();

        State(String name, Play play) {
            this.name = name;
            this.play = play;
            for (Play later : LATER) {
                looks.add(look(play.then(later)));
            }
        }

        /** The call answers what is due, and nothing is otherwise by it, now or later. */
        void unchangedBy(String call, ToLongFunction<BandPress> asks, long want) {
            due(name + ": " + call, asks.applyAsLong(played(play)), want);
            for (int k = 0; k < LATER.length; k++) {
                long[] is = look(play.then(asks::applyAsLong).then(LATER[k]));
                due(name + ": what " + call + " has changed, seen by way " + k, differs(looks.get(k), is), -1);
            }
        }
    }
}
