import java.util.NoSuchElementException;

/** Made-up calls with all kinds of arguments: nothing but the document's exceptions, and what must always hold. */
public final class FuzzTest {
    private static final int OBJECTS = 3000;
    private static final String[] PARTS = {
        "1 ", "0 ", "7~", "40 ", "200 ", "99999 ", "a", "b", ":a", ":b", "+", "-", "*", "/", "%", "~", "<", "=",
        "D", "X", "O", "{", "}", "?", "R", "Q", "M", "L", "C", "Z", "N", "F", "E", "W", "T", "S", "G", "U", "V", "P",
        "P", "P", "0 0M90 0L90 90LF ", "3{5 5M9 9LP}R ", "{D1X R}D1X R", "1{2}{3}? ", "1 2 3 4 5 6C ", " ", ":", "A"};

    private static int wrong = 0;
    private static long seed = 1L;

    private final BandPress x = new BandPress();
    private int loaded = 0;
    private int taken = 0;
    private int outBefore = 0;
    private int limit = 0;

    public static void main(String[] args) {
        int ended = 0;
        int sheets = 0;
        for (int k = 0; k < OBJECTS; k++) {
            FuzzTest test = new FuzzTest();
            for (int call = 0; call < 512; call++) {
                test.callOne(k, call);
                test.look(k, call);
            }
            ended += test.x.job(0) == 2 ? 1 : 0;
            sheets += test.outBefore + test.x.press(3);
        }
        must(0, 0, "jobs end", ended > OBJECTS / 10);
        must(0, 0, "sheets go out", sheets > OBJECTS);
        System.out.println(wrong == 0 ? "all answers are as due" : wrong + " answers are not as due");
        if (wrong != 0) {
            System.exit(1);
        }
    }

    private static int pick(int low, int high) {
        seed = seed * 6364136223846793005L + 1442695040888963407L;
        return low + (int) ((seed >>> 33) % (high - low + 1));
    }

    private static int odd(int low, int high) {
        int kind = pick(0, 19);
        return kind == 0 ? Integer.MIN_VALUE : kind == 1 ? Integer.MAX_VALUE : pick(low - 1, high + 1);
    }

    private static void must(int object, int call, String what, boolean holds) {
        if (!holds) {
            wrong++;
            System.out.println("object " + object + ", call " + call + ": it must hold that " + what);
        }
    }

    private void callOne(int object, int call) {
        try {
            switch (pick(0, 17)) {
                case 0, 1, 2, 3, 4 -> typeSome();
                case 5 -> startOne();
                case 6, 7 -> x.run(pick(0, 4) == 0 ? odd(1, 5000) : pick(1, 5000));
                case 8, 9, 10 -> x.tick(pick(0, 9) == 0 ? odd(1, 1000) : pick(1, 12));
                case 11 -> x.stick(odd(0, 3), pick(0, 4) == 0);
                case 12 -> taken += x.take(odd(0, 3)) ? 1 : 0;
                case 13 -> loadSome();
                case 14 -> x.cover(pick(0, 3) == 0);
                case 15 -> x.value(odd(0, 32));
                case 16 -> ask();
                default -> clearJam();
            }
        } catch (IllegalStateException | NoSuchElementException e) {
            return;
        } catch (IllegalArgumentException e) {
            must(object, call, "it is the document's exception", e.getClass() == IllegalArgumentException.class);
        } catch (RuntimeException e) {
            must(object, call, "no other exception is thrown than " + e, false);
        }
    }

    private void typeSome() {
        if (pick(0, 30) == 0) {
            x.type(seed, odd(1, 8));
            return;
        }
        String part = PARTS[pick(0, PARTS.length - (pick(0, 9) == 0 ? 1 : 3))];
        for (int k = 0; k < part.length(); k++) {
            x.type(part.charAt(k), 1);
        }
    }

    private void startOne() {
        int out = x.press(3);
        int most = pick(0, 5) == 0 ? odd(1, 20000) : pick(1, 20000);
        if (x.start(odd(1, 4), pick(0, 1) == 0, most) == 0) {
            outBefore += out;
            limit = most;
        }
    }

    private void loadSome() {
        int before = x.press(2);
        int after = x.load(odd(1, 200));
        loaded += after == -1 ? 0 : after - before;
    }

    private void clearJam() {
        for (int k = 0; k < 4 && x.press(0) == 3; k++) {
            x.stick(k, false);
            taken += x.take(k) ? 1 : 0;
        }
    }

    private void ask() {
        x.job(odd(0, 8));
        x.variable(odd(0, 25));
        x.pixel(odd(-1, 8), odd(0, 63), odd(0, 47));
        x.band(odd(0, 7), odd(0, 5));
        x.octet(odd(0, 7), odd(0, 5), odd(0, 90));
        x.section(odd(0, 3), odd(0, 2));
        x.out(odd(0, 32), odd(0, 3));
        x.press(odd(0, 6));
    }

    private void look(int object, int call) {
        int inside = 0;
        for (int k = 0; k < 4; k++) {
            int sheet = x.section(k, 0);
            inside += sheet == -1 ? 0 : 1;
            must(object, call, "a sheet inside is one of the job's", sheet < x.press(4));
            for (int other = 0; other < k; other++) {
                must(object, call, "a sheet is inside once", sheet == -1 || sheet != x.section(other, 0));
            }
        }
        must(object, call, "at most two are inside", inside <= 2);
        must(object, call, "no sheet of paper is lost",
            loaded == x.press(2) + inside + taken + outBefore + x.press(3));
        must(object, call, "HEAT is 0 to 100", x.press(1) >= 0 && x.press(1) <= 100);
        must(object, call, "STEPS keep to the limit", x.job(4) <= limit);
        must(object, call, "there are 32 values at most", x.job(6) <= 32);
        must(object, call, "there are 200 places at most", x.job(7) <= 200);
        must(object, call, "there are 250 MARKS at most", x.job(5) <= 250);
        must(object, call, "an error ends the job", x.job(1) == 0 || x.job(0) == 2);
    }
}
