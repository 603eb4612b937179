import java.util.Arrays;
import java.util.NoSuchElementException;

/** A printer's press: see README.md, and the document for what each call promises. */
public final class BandPress {
    public static final int NONE = -1;

    private static final int COLUMNS = 64;
    private static final int LINES = 48;
    private static final int BANDS = 6;
    private static final int BAND_LINES = 8;
    private static final int LINE_BYTES = 8;
    private static final int MOST_SIGNS = 300;
    private static final int MOST_DIGITS = 5;
    private static final int MOST_BRACES = 8;
    private static final int MOST_COPIES = 4;
    private static final int MOST_STEPS = 20000;
    private static final int MOST_STEPS_AT_ONCE = 5000;
    private static final int MOST_VALUES = 32;
    private static final int MOST_CALLS = 20;
    private static final int MOST_SAVED = 4;
    private static final int MOST_PLACES = 200;
    private static final int MOST_MARKS = 250;
    private static final int MOST_PAGES = 8;
    private static final int MOST_TICKS_AT_ONCE = 1000;
    private static final int MOST_LOADED = 200;
    private static final int MOST_IN_TRAY = 500;
    private static final int LETTERS = 26;
    private static final int NUMBER_LIMIT = 1000000;
    private static final int STRETCH_LIMIT = 4096;
    private static final int PLACE_LIMIT = 100000;
    private static final int SIXTEENTHS = 16;
    private static final int FULL_GREY = 16;
    private static final int EIGHTHS = 8;
    private static final int MOST_PACKED = 128;
    private static final int MOST_SHEETS = 32;

    /** A value from here on is a procedure: this and the place of its brace. */
    private static final int PROCEDURE = 2000000;

    private static final String CONTROL_WORDS = "?RQ";
    private static final String PATH_WORDS = "MLCZN";
    private static final String PAGE_WORDS = "FEWTSGUVP";
    private static final String OTHER_SIGNS = " {}:+-*/%~<=DXO";

    private static final int[] CELL = {0, 8, 2, 10, 12, 4, 14, 6, 3, 11, 1, 9, 15, 7, 13, 5};

    private final Text tape = new Text();
    private final Job work = new Job();
    private final Order order = new Order();
    private final Machine machine = new Machine(order);
    private final Packer packer = new Packer();

    public BandPress() {
    }

    public boolean type(long word, int n) {
        return tape.append(word, n);
    }

    public int start(int copies, boolean twoSided, int limit) {
        if (copies < 1 || copies > MOST_COPIES || limit < 1 || limit > MOST_STEPS) {
            return NONE;
        }
        if (work.isUnderWay() || order.left() > 0) {
            return NONE;
        }
        int fault = tape.fault();
        if (fault == NONE) {
            work.begin(tape, limit);
            order.begin(copies, twoSided);
        }
        tape.clear();
        return fault == NONE ? 0 : fault + 1;
    }

    public int run(int n) throws IllegalStateException, IllegalArgumentException {
        if (!work.isUnderWay()) {
            throw new IllegalStateException();
        }
        if (n < 1 || n > MOST_STEPS_AT_ONCE) {
            throw new IllegalArgumentException();
        }
        work.endIfOver();
        for (int done = 0; done < n && work.isUnderWay(); done++) {
            work.step();
        }
        if (work.isUnderWay()) {
            return 0;
        }
        order.complete(work.pages.kept);
        return work.error == 0 ? 1 : 2;
    }

    public int job(int what) {
        switch (what) {
            case 0: return work.state;
            case 1: return work.error;
            case 2: return work.errorPlace;
            case 3: return work.pages.kept;
            case 4: return work.steps;
            case 5: return work.pages.marks;
            case 6: return work.stack.size;
            case 7: return work.path.size;
            case 8: return work.settings.greyNow();
            default: return NONE;
        }
    }

    public int value(int k) throws NoSuchElementException {
        if (k < 0 || k >= work.stack.size) {
            throw new NoSuchElementException();
        }
        return work.stack.peek(k);
    }

    public int variable(int k) {
        return k < 0 || k >= LETTERS ? 0 : work.variables[k];
    }

    public boolean pixel(int page, int x, int y) {
        if (x < 0 || x >= COLUMNS || y < 0 || y >= LINES) {
            return false;
        }
        return (work.pages.line(page, y) >>> (COLUMNS - 1 - x) & 1L) != 0L;
    }

    public int band(int page, int b) {
        if (!work.pages.isKept(page) || b < 0 || b >= BANDS) {
            return NONE;
        }
        packer.pack(work.pages, page, b);
        return packer.size;
    }

    public int octet(int page, int b, int i) {
        if (!work.pages.isKept(page) || b < 0 || b >= BANDS) {
            return NONE;
        }
        packer.pack(work.pages, page, b);
        return i < 0 || i >= packer.size ? NONE : packer.packed[i];
    }

    public int tick(int n) throws IllegalArgumentException {
        if (n < 1 || n > MOST_TICKS_AT_ONCE) {
            throw new IllegalArgumentException();
        }
        for (int done = 0; done < n; done++) {
            machine.pass();
        }
        return machine.state();
    }

    public boolean stick(int section, boolean on) {
        if (!Machine.isSection(section)) {
            return false;
        }
        machine.sticks[section] = on;
        return true;
    }

    public boolean take(int section) {
        return Machine.isSection(section) && machine.remove(section);
    }

    public int load(int n) {
        if (n < 1 || n > MOST_LOADED || machine.tray + n > MOST_IN_TRAY) {
            return NONE;
        }
        machine.tray += n;
        return machine.tray;
    }

    public boolean cover(boolean open) {
        boolean otherwise = machine.open != open;
        machine.open = open;
        return otherwise;
    }

    public int section(int k, int what) {
        if (!Machine.isSection(k)) {
            return NONE;
        }
        switch (what) {
            case 0: return machine.sheets[k];
            case 1: return machine.printed[k];
            case 2: return machine.sticks[k] ? 1 : 0;
            default: return NONE;
        }
    }

    public int out(int k, int what) {
        if (k < 0 || k >= order.outCount) {
            return NONE;
        }
        int sheet = order.outSheets[k];
        switch (what) {
            case 0: return sheet;
            case 1: return order.copyOf(sheet);
            case 2: return order.firstPage(sheet);
            case 3: return order.secondPage(sheet);
            default: return NONE;
        }
    }

    public int press(int what) {
        switch (what) {
            case 0: return machine.state();
            case 1: return machine.heat;
            case 2: return machine.tray;
            case 3: return order.outCount;
            case 4: return order.count;
            case 5: return machine.ticks;
            case 6: return machine.jams;
            default: return NONE;
        }
    }

    private static boolean isDigit(int sign) {
        return sign >= '0' && sign <= '9';
    }

    private static boolean isLetter(int sign) {
        return sign >= 'a' && sign <= 'z';
    }

    private static boolean isOneOf(String signs, int sign) {
        return signs.indexOf((char) sign) >= 0;
    }

    /** What has been typed, or the text of a job; that has no fault. */
    private static final class Text {
        private final int[] signs = new int[MOST_SIGNS];
        private final int[] closings = new int[MOST_SIGNS];
        private final int[] open = new int[MOST_BRACES];
        int length;

        boolean append(long word, int n) {
            if (n < 1 || n > 8 || length + n > MOST_SIGNS || !isPlain(word, n)) {
                return false;
            }
            for (int k = n - 1; k >= 0; k--) {
                signs[length] = byteOf(word, k);
                length++;
            }
            return true;
        }

        void clear() {
            length = 0;
        }

        /** The place of the first sign that can't stand there, or NONE. */
        int fault() {
            int depth = 0;
            int digits = 0;
            boolean named = false;
            for (int at = 0; at < length; at++) {
                int sign = signs[at];
                digits = isDigit(sign) ? digits + 1 : 0;
                depth += sign == '{' ? 1 : sign == '}' ? -1 : 0;
                boolean stands = named ? isLetter(sign) : isWord(sign);
                if (!stands || digits > MOST_DIGITS || depth < 0 || depth > MOST_BRACES) {
                    return at;
                }
                named = sign == ':';
            }
            return depth > 0 || named ? length : NONE;
        }

        void copy(Text other) {
            length = other.length;
            System.arraycopy(other.signs, 0, signs, 0, length);
            int depth = 0;
            for (int at = 0; at < length; at++) {
                if (signs[at] == '{' && depth < MOST_BRACES) {
                    open[depth] = at;
                    depth++;
                } else if (signs[at] == '}' && depth > 0) {
                    depth--;
                    closings[open[depth]] = at;
                }
            }
        }

        int sign(int at) {
            return at < 0 || at >= length ? ' ' : signs[at];
        }

        int closing(int brace) {
            return brace < 0 || brace >= length ? length : closings[brace];
        }

        int skipBlanks(int from, int end) {
            int at = from;
            while (at < end && sign(at) == ' ') {
                at++;
            }
            return at;
        }

        int behind(int at) {
            int word = sign(at);
            if (word == '{') {
                return closing(at) + 1;
            }
            if (word == ':') {
                return at + 2;
            }
            return isDigit(word) ? behindDigits(at) : at + 1;
        }

        int number(int at) {
            int end = behindDigits(at);
            int number = 0;
            for (int k = at; k < end; k++) {
                number = 10 * number + sign(k) - '0';
            }
            return number;
        }

        private int behindDigits(int from) {
            int at = from;
            while (at < length && isDigit(sign(at))) {
                at++;
            }
            return at;
        }

        private static boolean isPlain(long word, int n) {
            for (int k = 0; k < n; k++) {
                int sign = byteOf(word, k);
                if (sign < 32 || sign > 126) {
                    return false;
                }
            }
            return true;
        }

        private static int byteOf(long word, int k) {
            return (int) (word >>> (8 * k)) & 255;
        }

        private static boolean isWord(int sign) {
            return isDigit(sign) || isLetter(sign) || isOneOf(OTHER_SIGNS, sign)
                || isOneOf(CONTROL_WORDS, sign) || isOneOf(PATH_WORDS, sign) || isOneOf(PAGE_WORDS, sign);
        }
    }

    /** The text and the procedures that are under way in it, the innermost one last. */
    private static final class Calls {
        private final int[] next = new int[MOST_CALLS + 1];
        private final int[] first = new int[MOST_CALLS + 1];
        private final int[] end = new int[MOST_CALLS + 1];
        /** How often it is still to be done, with this time; 0 for what no R has begun. */
        private final int[] times = new int[MOST_CALLS + 1];
        private int depth = NONE;

        void begin(Text script) {
            depth = NONE;
            push(0, script.length, 0);
            settle(script);
        }

        /** One without a word is over at once, however often it is to be done. */
        void enter(Text script, int procedure, int count) {
            int brace = procedure - PROCEDURE;
            int closing = script.closing(brace);
            if (script.skipBlanks(brace + 1, closing) < closing) {
                push(brace + 1, closing, count);
            }
        }

        boolean isOver() {
            return depth < 0;
        }

        boolean isFull() {
            return depth >= MOST_CALLS;
        }

        int place() {
            return depth < 0 ? 0 : next[depth];
        }

        void goTo(int at) {
            if (depth >= 0) {
                next[depth] = at;
            }
        }

        /** The innermost one that an R has begun, or NONE. */
        int innermostLoop() {
            for (int k = depth; k >= 0; k--) {
                if (times[k] > 0) {
                    return k;
                }
            }
            return NONE;
        }

        void leaveLoop() {
            int loop = innermostLoop();
            if (loop != NONE) {
                depth = loop - 1;
            }
        }

        /** Goes to the next word; what has none left ends, or begins again. */
        void settle(Text script) {
            for (int k = depth; k >= 0; k--) {
                next[k] = script.skipBlanks(next[k], end[k]);
                if (next[k] < end[k]) {
                    return;
                }
                if (times[k] > 1) {
                    times[k]--;
                    next[k] = script.skipBlanks(first[k], end[k]);
                    return;
                }
                depth--;
            }
        }

        private void push(int from, int to, int count) {
            if (depth < MOST_CALLS) {
                depth++;
                next[depth] = from;
                first[depth] = from;
                end[depth] = to;
                times[depth] = count;
            }
        }
    }

    /** Numbers and procedures. */
    private static final class Values {
        private final int[] held = new int[MOST_VALUES];
        int size;

        boolean isFull() {
            return size >= MOST_VALUES;
        }

        boolean isProcedure(int k) {
            return peek(k) >= PROCEDURE;
        }

        int peek(int k) {
            return k < 0 || k >= size ? 0 : held[size - 1 - k];
        }

        void push(int value) {
            if (size < MOST_VALUES) {
                held[size] = value;
                size++;
            }
        }

        void drop(int count) {
            size = Math.max(0, size - count);
        }
    }

    /** Matrix, grey and clip, with the saved ones: those at the level are in force. */
    private static final class Settings {
        private final int[] sx = new int[MOST_SAVED + 1];
        private final int[] sy = new int[MOST_SAVED + 1];
        private final int[] tx = new int[MOST_SAVED + 1];
        private final int[] ty = new int[MOST_SAVED + 1];
        private final int[] grey = new int[MOST_SAVED + 1];
        private final long[] clip = new long[(MOST_SAVED + 1) * LINES];
        private int level;

        Settings() {
            sx[0] = SIXTEENTHS;
            sy[0] = SIXTEENTHS;
            grey[0] = FULL_GREY;
            Arrays.fill(clip, -1L);
        }

        void reset() {
            level = 0;
            sx[0] = SIXTEENTHS;
            sy[0] = SIXTEENTHS;
            tx[0] = 0;
            ty[0] = 0;
            grey[0] = FULL_GREY;
            Arrays.fill(clip, -1L);
        }

        int saved() {
            return level;
        }

        void save() {
            if (level < MOST_SAVED) {
                int to = level + 1;
                sx[to] = sx[level];
                sy[to] = sy[level];
                tx[to] = tx[level];
                ty[to] = ty[level];
                grey[to] = grey[level];
                System.arraycopy(clip, level * LINES, clip, to * LINES, LINES);
                level = to;
            }
        }

        void takeBack() {
            if (level > 0) {
                level--;
            }
        }

        long stretchedX(int x) {
            return Math.floorDiv((long) sx[level] * x, (long) SIXTEENTHS);
        }

        long stretchedY(int y) {
            return Math.floorDiv((long) sy[level] * y, (long) SIXTEENTHS);
        }

        long placedX(int x) {
            return tx[level] + stretchedX(x);
        }

        long placedY(int y) {
            return ty[level] + stretchedY(y);
        }

        void move(int x, int y) {
            tx[level] = (int) placedX(x);
            ty[level] = (int) placedY(y);
        }

        void stretch(int x, int y) {
            sx[level] = (int) stretchedX(x);
            sy[level] = (int) stretchedY(y);
        }

        int greyNow() {
            return grey[level];
        }

        void setGrey(int shade) {
            grey[level] = shade;
        }

        long clipLine(int y) {
            return clip[level * LINES + y];
        }

        void cutClip(long[] rows) {
            for (int y = 0; y < LINES; y++) {
                clip[level * LINES + y] &= rows[y];
            }
        }
    }

    /** The places of a path, in quarters of a pixel. */
    private static final class Path {
        final int[] xs = new int[MOST_PLACES];
        final int[] ys = new int[MOST_PLACES];
        final boolean[] begins = new boolean[MOST_PLACES];
        private final int[] curveX = new int[3 * EIGHTHS + 1];
        private final int[] curveY = new int[3 * EIGHTHS + 1];
        int size;
        private int subpath;
        private boolean closed;

        void clear() {
            size = 0;
            subpath = 0;
            closed = false;
        }

        /** Behind a Z the place where the next subpath begins is one more. */
        int placesFor(int lines) {
            return closed ? lines + 1 : lines;
        }

        void begin(int x, int y) {
            subpath = size;
            closed = false;
            add(x, y, true);
        }

        void lineTo(int x, int y) {
            goOn();
            add(x, y, false);
        }

        void close() {
            closed = true;
        }

        /** The two places on the way and the one where the curve ends, one by one. */
        void bend(int k, int x, int y) {
            curveX[k * EIGHTHS] = x;
            curveY[k * EIGHTHS] = y;
        }

        void curve() {
            goOn();
            int last = Math.max(0, size - 1);
            bend(0, xs[last], ys[last]);
            for (int stride = EIGHTHS; stride > 1; stride /= 2) {
                for (int at = 0; at < 3 * EIGHTHS; at += 3 * stride) {
                    halve(curveX, at, stride);
                    halve(curveY, at, stride);
                }
            }
            for (int at = 3; at <= 3 * EIGHTHS; at += 3) {
                add(curveX[at], curveY[at], false);
            }
        }

        /** The four places of a curve stand a stride apart; those of its halves go half as far apart. */
        private static void halve(int[] row, int at, int stride) {
            int half = stride / 2;
            int a = middle(row[at], row[at + stride]);
            int b = middle(row[at + stride], row[at + 2 * stride]);
            int c = middle(row[at + 2 * stride], row[at + 3 * stride]);
            int d = middle(a, b);
            int f = middle(b, c);
            row[at + half] = a;
            row[at + 2 * half] = d;
            row[at + 3 * half] = middle(d, f);
            row[at + 4 * half] = f;
            row[at + 5 * half] = c;
        }

        private static int middle(int a, int b) {
            return (a + b) >> 1;
        }

        private void goOn() {
            if (closed) {
                begin(xs[subpath], ys[subpath]);
            }
        }

        private void add(int x, int y, boolean first) {
            if (size < MOST_PLACES) {
                xs[size] = x;
                ys[size] = y;
                begins[size] = first;
                size++;
            }
        }
    }

    /** Which pixels a path goes round: a line of the page is a long, its leftmost pixel the highest bit. */
    private static final class Filler {
        final long[] rows = new long[LINES];
        /** By how much the sum of the edges that count changes at a pixel; all 0 between two lines. */
        private final int[] turns = new int[COLUMNS];

        void trace(Path path, boolean odd) {
            for (int y = 0; y < LINES; y++) {
                rows[y] = meetEdges(path, 4 * y + 2) ? sweep(odd) : 0L;
            }
        }

        private boolean meetEdges(Path path, int cy) {
            boolean met = false;
            int first = 0;
            for (int k = 0; k < path.size; k++) {
                first = path.begins[k] ? k : first;
                boolean last = k + 1 == path.size || path.begins[k + 1];
                int to = last ? first : k + 1;
                boolean down = path.ys[k] <= cy && cy < path.ys[to];
                boolean up = path.ys[to] <= cy && cy < path.ys[k];
                if (down || up) {
                    int x = down ? firstPixel(path, k, to, cy) : firstPixel(path, to, k, cy);
                    if (x < COLUMNS) {
                        turns[x] += down ? 1 : -1;
                        met = true;
                    }
                }
            }
            return met;
        }

        /** The leftmost pixel whose centre is not to the left of the edge; it goes down, so the height is above 0. */
        private static int firstPixel(Path path, int from, int to, int cy) {
            long height = (long) path.ys[to] - path.ys[from];
            if (height <= 0L) {
                return COLUMNS;
            }
            long width = (long) path.xs[to] - path.xs[from];
            long met = path.xs[from] * height + (cy - path.ys[from]) * width;
            long x = -Math.floorDiv(2L * height - met, 4L * height);
            return (int) Math.max(0L, Math.min(x, (long) COLUMNS));
        }

        /** The sum is odd just when the number of edges is, as each counts 1 or -1. */
        private long sweep(boolean odd) {
            long row = 0L;
            int sum = 0;
            for (int x = 0; x < COLUMNS; x++) {
                sum += turns[x];
                turns[x] = 0;
                boolean inside = odd ? (sum & 1) != 0 : sum != 0;
                row = row << 1 | (inside ? 1L : 0L);
            }
            return row;
        }
    }

    /** The pages that are kept, and the one under way. */
    private static final class Pages {
        private final long[] lines = new long[MOST_PAGES * LINES];
        private final long[] drawn = new long[LINES];
        int kept;
        int marks;

        void clear() {
            kept = 0;
            clean();
        }

        boolean isKept(int page) {
            return page >= 0 && page < kept;
        }

        /** A line of a page that is kept, or of the one under way (-1); white if there is none such. */
        long line(int page, int y) {
            if (y < 0 || y >= LINES) {
                return 0L;
            }
            return isKept(page) ? lines[page * LINES + y] : page == -1 ? drawn[y] : 0L;
        }

        boolean isFull() {
            return kept >= MOST_PAGES;
        }

        void keep() {
            if (kept < MOST_PAGES) {
                System.arraycopy(drawn, 0, lines, kept * LINES, LINES);
                kept++;
                clean();
            }
        }

        static int marksOf(long[] rows, Settings settings) {
            int count = 0;
            for (int y = 0; y < LINES; y++) {
                long painted = rows[y] & settings.clipLine(y);
                count += Long.bitCount(painted & ~(painted >>> 1));
            }
            return count;
        }

        void paint(long[] rows, Settings settings) {
            marks += marksOf(rows, settings);
            for (int y = 0; y < LINES; y++) {
                long painted = rows[y] & settings.clipLine(y);
                drawn[y] = drawn[y] & ~painted | painted & dots(y, settings.greyNow());
            }
        }

        private void clean() {
            Arrays.fill(drawn, 0L);
            marks = 0;
        }

        private static long dots(int y, int grey) {
            long cell = 0L;
            for (int x = 0; x < 4; x++) {
                cell = cell << 1 | (CELL[y % 4 * 4 + x] < grey ? 1L : 0L);
            }
            return cell * 0x1111111111111111L;
        }
    }

    /** A job's text, what it works on, and how far it is. */
    private static final class Job {
        private static final int UNDER_WAY = 1;
        private static final int ENDED = 2;

        private final Text script = new Text();
        private final Calls calls = new Calls();
        private final Filler filler = new Filler();
        final Values stack = new Values();
        final int[] variables = new int[LETTERS];
        final Settings settings = new Settings();
        final Path path = new Path();
        final Pages pages = new Pages();
        int state;
        int error;
        int errorPlace;
        int steps;
        private int limit;

        boolean isUnderWay() {
            return state == UNDER_WAY;
        }

        void begin(Text tape, int mostSteps) {
            script.copy(tape);
            calls.begin(script);
            stack.drop(MOST_VALUES);
            Arrays.fill(variables, 0);
            settings.reset();
            path.clear();
            pages.clear();
            state = UNDER_WAY;
            error = 0;
            errorPlace = 0;
            steps = 0;
            limit = mostSteps;
        }

        void endIfOver() {
            if (calls.isOver()) {
                state = ENDED;
            }
        }

        void step() {
            int at = calls.place();
            int word = script.sign(at);
            error = errorOf(word);
            if (error != 0) {
                errorPlace = at;
                state = ENDED;
                return;
            }
            calls.goTo(script.behind(at));
            perform(word, at);
            steps++;
            calls.settle(script);
            endIfOver();
        }

        /** The least error that is the case; the document numbers them in this order. */
        private int errorOf(int word) {
            int needed = needs(word);
            if (stack.size < needed) {
                return 1;
            }
            if (!kindsFit(word, needed)) {
                return 2;
            }
            if (goesBeyond(word)) {
                return 3;
            }
            if ((word == '/' || word == '%') && stack.peek(0) == 0) {
                return 4;
            }
            if (lacksRoom(word)) {
                return 5;
            }
            if ((word == 'L' || word == 'C' || word == 'Z') && path.size == 0) {
                return 6;
            }
            if (path.size + placesFor(word) > MOST_PLACES) {
                return 7;
            }
            if ((word == 'F' || word == 'E') && marksTooMuch(word)) {
                return 8;
            }
            if (word == 'P' && pages.isFull()) {
                return 9;
            }
            if (word == 'U' && settings.saved() == MOST_SAVED || word == 'V' && settings.saved() == 0) {
                return 10;
            }
            if (word == 'Q' && calls.innermostLoop() == NONE) {
                return 11;
            }
            return steps >= limit ? 12 : 0;
        }

        private static int needs(int word) {
            switch (word) {
                case ':': case '~': case 'D': case 'O': case 'G':
                    return 1;
                case '+': case '-': case '*': case '/': case '%': case '<': case '=':
                case 'X': case 'R': case 'M': case 'L': case 'T': case 'S':
                    return 2;
                case '?':
                    return 3;
                case 'C':
                    return 6;
                default:
                    return 0;
            }
        }

        private boolean kindsFit(int word, int needed) {
            if (word == 'D' || word == 'X' || word == 'O') {
                return true;
            }
            int procedures = word == '?' ? 2 : word == 'R' ? 1 : 0;
            for (int k = 0; k < needed; k++) {
                if (stack.isProcedure(k) != k < procedures) {
                    return false;
                }
            }
            return true;
        }

        private boolean goesBeyond(int word) {
            switch (word) {
                case '+': case '-': case '*':
                    return Math.abs(resultOf(word)) > NUMBER_LIMIT;
                case 'M': case 'L': case 'T':
                    return isFarOff(1);
                case 'C':
                    return isFarOff(5) || isFarOff(3) || isFarOff(1);
                case 'S':
                    return Math.abs(settings.stretchedX(stack.peek(1))) > STRETCH_LIMIT
                        || Math.abs(settings.stretchedY(stack.peek(0))) > STRETCH_LIMIT;
                case 'G':
                    return stack.peek(0) < 0 || stack.peek(0) > FULL_GREY;
                default:
                    return false;
            }
        }

        private boolean isFarOff(int k) {
            return Math.abs(settings.placedX(stack.peek(k))) > PLACE_LIMIT
                || Math.abs(settings.placedY(stack.peek(k - 1))) > PLACE_LIMIT;
        }

        private boolean lacksRoom(int word) {
            if (isDigit(word) || isLetter(word) || word == '{' || word == 'D') {
                return stack.isFull();
            }
            boolean enters = word == '?' || word == 'R' && stack.peek(1) >= 1;
            return enters && calls.isFull();
        }

        private int placesFor(int word) {
            switch (word) {
                case 'M': return 1;
                case 'L': return path.placesFor(1);
                case 'C': return path.placesFor(EIGHTHS);
                default: return 0;
            }
        }

        /** Leaves in the filler what the word is to paint. */
        private boolean marksTooMuch(int word) {
            filler.trace(path, word == 'E');
            return pages.marks + Pages.marksOf(filler.rows, settings) > MOST_MARKS;
        }

        private long resultOf(int word) {
            long a = stack.peek(1);
            long b = stack.peek(0);
            switch (word) {
                case '+': return a + b;
                case '-': return a - b;
                case '*': return a * b;
                case '/': return b == 0L ? 0L : a / b;
                case '%': return b == 0L ? 0L : a % b;
                case '<': return a < b ? 1L : 0L;
                case '=': return a == b ? 1L : 0L;
                default: return 0L;
            }
        }

        private void perform(int word, int at) {
            if (isDigit(word)) {
                stack.push(script.number(at));
            } else if (isLetter(word)) {
                stack.push(variables[word - 'a']);
            } else if (word == '{') {
                stack.push(PROCEDURE + at);
            } else if (word == ':') {
                assign(script.sign(at + 1));
            } else if (isOneOf(CONTROL_WORDS, word)) {
                control(word);
            } else if (isOneOf(PATH_WORDS, word)) {
                draw(word);
            } else if (isOneOf(PAGE_WORDS, word)) {
                use(word);
            } else {
                reckon(word);
            }
        }

        private void assign(int letter) {
            if (isLetter(letter)) {
                variables[letter - 'a'] = stack.peek(0);
            }
            stack.drop(1);
        }

        private void control(int word) {
            int upper = stack.peek(0);
            int lower = stack.peek(1);
            int number = stack.peek(2);
            if (word == 'Q') {
                calls.leaveLoop();
            } else if (word == '?') {
                stack.drop(3);
                calls.enter(script, number != 0 ? lower : upper, 0);
            } else {
                stack.drop(2);
                if (lower >= 1) {
                    calls.enter(script, upper, lower);
                }
            }
        }

        private void draw(int word) {
            switch (word) {
                case 'M':
                    path.begin(placedX(1), placedY(0));
                    break;
                case 'L':
                    path.lineTo(placedX(1), placedY(0));
                    break;
                case 'C':
                    path.bend(1, placedX(5), placedY(4));
                    path.bend(2, placedX(3), placedY(2));
                    path.bend(3, placedX(1), placedY(0));
                    path.curve();
                    break;
                case 'Z':
                    path.close();
                    break;
                default:
                    path.clear();
                    break;
            }
            stack.drop(needs(word));
        }

        private int placedX(int k) {
            return (int) settings.placedX(stack.peek(k));
        }

        private int placedY(int k) {
            return (int) settings.placedY(stack.peek(k));
        }

        private void use(int word) {
            switch (word) {
                case 'F': case 'E':
                    pages.paint(filler.rows, settings);
                    path.clear();
                    break;
                case 'W':
                    filler.trace(path, false);
                    settings.cutClip(filler.rows);
                    path.clear();
                    break;
                case 'P':
                    pages.keep();
                    path.clear();
                    break;
                case 'T':
                    settings.move(stack.peek(1), stack.peek(0));
                    break;
                case 'S':
                    settings.stretch(stack.peek(1), stack.peek(0));
                    break;
                case 'G':
                    settings.setGrey(stack.peek(0));
                    break;
                case 'U':
                    settings.save();
                    break;
                default:
                    settings.takeBack();
                    break;
            }
            stack.drop(needs(word));
        }

        private void reckon(int word) {
            int upper = stack.peek(0);
            int lower = stack.peek(1);
            int result = (int) resultOf(word);
            if (word != 'D') {
                stack.drop(needs(word));
            }
            switch (word) {
                case 'O':
                    break;
                case 'D':
                    stack.push(upper);
                    break;
                case 'X':
                    stack.push(upper);
                    stack.push(lower);
                    break;
                case '~':
                    stack.push(-upper);
                    break;
                default:
                    stack.push(result);
                    break;
            }
        }
    }

    /** A band of a page as bytes. */
    private static final class Packer {
        final int[] packed = new int[MOST_PACKED];
        int size;
        private final int[] octets = new int[LINE_BYTES];

        void pack(Pages pages, int page, int band) {
            size = 0;
            int alike = 0;
            for (int at = 0; at < BAND_LINES; at += Math.max(1, alike)) {
                alike = linesAlike(pages, page, band, at);
                if (alike > 0) {
                    add(192 + alike);
                } else {
                    packLine(pages.line(page, band * BAND_LINES + at));
                }
            }
        }

        private static int linesAlike(Pages pages, int page, int band, int from) {
            int first = band * BAND_LINES;
            long above = from == 0 ? 0L : pages.line(page, first + from - 1);
            int at = from;
            while (at < BAND_LINES && pages.line(page, first + at) == above) {
                at++;
            }
            return at - from;
        }

        private void packLine(long line) {
            for (int k = 0; k < LINE_BYTES; k++) {
                octets[k] = (int) (line >>> (8 * (LINE_BYTES - 1 - k))) & 255;
            }
            int count = 0;
            for (int at = 0; at < LINE_BYTES; at += Math.max(1, count)) {
                count = octetsAlike(at);
                if (count > 1) {
                    add(128 + count);
                    add(octets[at]);
                } else {
                    count = octetsApart(at);
                    add(count);
                    for (int k = at; k < at + count; k++) {
                        add(octets[k]);
                    }
                }
            }
        }

        private int octetsAlike(int from) {
            int at = from;
            while (at < LINE_BYTES && octets[at] == octets[from]) {
                at++;
            }
            return at - from;
        }

        private int octetsApart(int from) {
            int at = from;
            while (at < LINE_BYTES && octetsAlike(at) < 2) {
                at++;
            }
            return at - from;
        }

        private void add(int octet) {
            if (size < MOST_PACKED) {
                packed[size] = octet;
                size++;
            }
        }
    }

    /** The sheets of a job: none till it has ended. */
    private static final class Order {
        final int[] outSheets = new int[MOST_SHEETS];
        private final boolean[] isOut = new boolean[MOST_SHEETS];
        int outCount;
        int count;
        private int copies;
        private boolean twoSided;
        private int pages;
        private int perCopy;

        void begin(int howMany, boolean bothSides) {
            copies = howMany;
            twoSided = bothSides;
            pages = 0;
            perCopy = 0;
            count = 0;
            outCount = 0;
            for (int sheet = 0; sheet < MOST_SHEETS; sheet++) {
                isOut[sheet] = false;
            }
        }

        void complete(int pagesKept) {
            pages = pagesKept;
            perCopy = twoSided ? (pages + 1) / 2 : pages;
            count = Math.min(copies * perCopy, MOST_SHEETS);
        }

        int left() {
            return count - outCount;
        }

        int sides() {
            return twoSided ? 2 : 1;
        }

        boolean isLeft(int sheet) {
            return sheet >= 0 && sheet < count && !isOut[sheet];
        }

        void putOut(int sheet) {
            if (isLeft(sheet) && outCount < MOST_SHEETS) {
                isOut[sheet] = true;
                outSheets[outCount] = sheet;
                outCount++;
            }
        }

        int copyOf(int sheet) {
            return perCopy == 0 ? 0 : sheet / perCopy;
        }

        int firstPage(int sheet) {
            return perCopy == 0 ? 0 : sheet % perCopy * sides();
        }

        int secondPage(int sheet) {
            int page = firstPage(sheet) + 1;
            return twoSided && page < pages ? page : NONE;
        }
    }

    /** The tray, the sections, and what moves the sheets through them. */
    private static final class Machine {
        private static final int REGISTER = 0;
        private static final int DRUM = 1;
        private static final int FUSER = 2;
        private static final int TURN = 3;
        private static final int SECTIONS = 4;
        private static final int OUTSIDE = 4;
        private static final int MOST_INSIDE = 2;
        private static final int HOT = 80;
        private static final int HOTTEST = 100;
        private static final int JAM_TICKS = 4;

        private final Order order;
        final int[] sheets = {NONE, NONE, NONE, NONE};
        final int[] printed = new int[SECTIONS];
        final boolean[] sticks = new boolean[SECTIONS];
        private final boolean[] came = new boolean[SECTIONS];
        /** For how many ticks in a row its sheet has stuck where it would have gone. */
        private final int[] stuck = new int[SECTIONS];
        int heat;
        int tray;
        boolean open;
        int ticks;
        int jams;
        private boolean jammed;

        Machine(Order order) {
            this.order = order;
        }

        static boolean isSection(int k) {
            return k >= 0 && k < SECTIONS;
        }

        int state() {
            if (open) {
                return 5;
            }
            if (jammed) {
                return 3;
            }
            if (order.left() == 0) {
                return 0;
            }
            if (inside() == 0 && tray == 0) {
                return 4;
            }
            return heat < HOT ? 1 : 2;
        }

        boolean remove(int k) {
            if (sheets[k] == NONE || !open && !jammed) {
                return false;
            }
            empty(k);
            return true;
        }

        void pass() {
            ticks++;
            boolean warms = !open && order.left() > 0;
            heat = warms ? Math.min(HOTTEST, heat + 10) : Math.max(0, heat - 5);
            if (!open && jammed && inside() == 0 && !anySticks()) {
                jammed = false;
            }
            if (open || jammed) {
                // a tick in which nothing could have gone breaks the row
                Arrays.fill(stuck, 0);
            } else {
                moveAll();
            }
        }

        private void moveAll() {
            for (int k = 0; k < SECTIONS; k++) {
                came[k] = false;
            }
            moveFrom(FUSER);
            moveFrom(TURN);
            moveFrom(DRUM);
            moveFrom(REGISTER);
            feed();
            for (int k = 0; k < SECTIONS; k++) {
                if (stuck[k] >= JAM_TICKS && !jammed) {
                    jammed = true;
                    jams++;
                }
            }
        }

        private void moveFrom(int k) {
            int to = wayFrom(k);
            if (to == NONE || !sticks[k]) {
                stuck[k] = 0;
            } else {
                stuck[k]++;
            }
            if (to != NONE && !sticks[k]) {
                move(k, to);
            }
        }

        /** Where the sheet of a section can go now, or NONE. */
        private int wayFrom(int k) {
            if (sheets[k] == NONE || came[k]) {
                return NONE;
            }
            switch (k) {
                case FUSER: return printed[FUSER] >= order.sides() ? OUTSIDE : ifFree(TURN);
                case TURN: return ifFree(REGISTER);
                case DRUM: return ifFree(FUSER);
                default: return heat >= HOT ? ifFree(DRUM) : NONE;
            }
        }

        private int ifFree(int k) {
            return sheets[k] == NONE ? k : NONE;
        }

        private void move(int from, int to) {
            int sides = from == DRUM ? printed[from] + 1 : printed[from];
            if (to == OUTSIDE) {
                order.putOut(sheets[from]);
            } else {
                place(to, sheets[from], sides);
            }
            empty(from);
        }

        private void feed() {
            if (tray == 0 || sheets[REGISTER] != NONE || sheets[TURN] != NONE || inside() >= MOST_INSIDE) {
                return;
            }
            int sheet = nextToMake();
            if (sheet != NONE) {
                tray--;
                place(REGISTER, sheet, 0);
            }
        }

        private int nextToMake() {
            if (order.left() == 0) {
                return NONE;
            }
            for (int sheet = 0; sheet < order.count; sheet++) {
                if (order.isLeft(sheet) && !isInside(sheet)) {
                    return sheet;
                }
            }
            return NONE;
        }

        private void place(int k, int sheet, int sides) {
            sheets[k] = sheet;
            printed[k] = sides;
            came[k] = true;
        }

        private void empty(int k) {
            sheets[k] = NONE;
            printed[k] = 0;
        }

        private boolean isInside(int sheet) {
            for (int k = 0; k < SECTIONS; k++) {
                if (sheets[k] == sheet) {
                    return true;
                }
            }
            return false;
        }

        private int inside() {
            int count = 0;
            for (int k = 0; k < SECTIONS; k++) {
                count += sheets[k] == NONE ? 0 : 1;
            }
            return count;
        }

        private boolean anySticks() {
            for (int k = 0; k < SECTIONS; k++) {
                if (sticks[k]) {
                    return true;
                }
            }
            return false;
        }
    }
}
