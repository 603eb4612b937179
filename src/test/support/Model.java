import java.util.ArrayList;
import java.util.Arrays;
import java.util.List;

/**
 * The document's object once more, slow and plain, for comparison: a job is done anew from its beginning for each run,
 * its procedures by recursion; a sheet knows where it is.
 */
final class Model {
    /** The job ends with an error. */
    private static final class Failure extends RuntimeException {
        private static final long serialVersionUID = 1L;

        final int error;

        Failure(int error) {
            super(null, null, false, false);
            this.error = error;
        }
    }

    /** No step is left for this run. */
    private static final class Pause extends RuntimeException {
        private static final long serialVersionUID = 1L;

        Pause() {
            super(null, null, false, false);
        }
    }

    /** The innermost R ends. */
    private static final class Leave extends RuntimeException {
        private static final long serialVersionUID = 1L;

        Leave() {
            super(null, null, false, false);
        }
    }

    private record Value(boolean procedure, int number) {
    }

    private record Place(long x, long y) {
    }

    private record Settings(long sx, long sy, long tx, long ty, int grey, boolean[][] clip) {
    }

    private static final class Sheet {
        final int number;
        int sides = 0;
        /** 0 .. 3 a section, -1 to be made, 4 out. */
        int where = -1;
        int row = 0;
        boolean came = false;

        Sheet(int number) {
            this.number = number;
        }
    }

    private static final int[][] CELLS = {{0, 8, 2, 10}, {12, 4, 14, 6}, {3, 11, 1, 9}, {15, 7, 13, 5}};

    String tape = "";
    private String text = "";
    private int copies = 0;
    private boolean twoSided = false;
    private int limit = 0;
    private int allowed = 0;

    int state = 0;
    int error = 0;
    int errorPlace = 0;
    int steps = 0;
    int marks = 0;
    List<boolean[][]> pages = new ArrayList<>();
    boolean[][] page = new boolean[48][64];
    private List<Value> stack = new ArrayList<>();
    final int[] variables = new int[26];
    private List<List<Place>> path = new ArrayList<>();
    private boolean closed = false;
    private Settings now = fresh();
    private List<Settings> saved = new ArrayList<>();

    private List<Sheet> sheets = new ArrayList<>();
    private List<Sheet> outs = new ArrayList<>();
    private final boolean[] sticks = new boolean[4];
    int heat = 0;
    int tray = 0;
    boolean open = false;
    boolean jammed = false;
    int ticks = 0;
    int jams = 0;

    private static Settings fresh() {
        boolean[][] all = new boolean[48][64];
        for (boolean[] line : all) {
            Arrays.fill(line, true);
        }
        return new Settings(16, 16, 0, 0, 16, all);
    }

    boolean type(long word, int n) {
        if (n < 1 || n > 8) {
            return false;
        }
        String more = "";
        for (int k = 8 - n; k < 8; k++) {
            int sign = (int) (word << 8 * k >>> 56);
            if (sign < ' ' || sign > '~') {
                return false;
            }
            more += (char) sign;
        }
        if ((tape + more).length() > 300) {
            return false;
        }
        tape += more;
        return true;
    }

    int start(int howMany, boolean bothSides, int most) {
        if (howMany < 1 || howMany > 4 || most < 1 || most > 20000 || state == 1 || outs.size() < sheets.size()) {
            return -1;
        }
        int fault = fault(tape);
        if (fault >= 0) {
            tape = "";
            return fault + 1;
        }
        text = tape;
        tape = "";
        copies = howMany;
        twoSided = bothSides;
        limit = most;
        allowed = 0;
        sheets = new ArrayList<>();
        outs = new ArrayList<>();
        again();
        state = 1;
        return 0;
    }

    private static int fault(String text) {
        int open = 0;
        for (int at = 0; at < text.length(); at++) {
            String sign = text.substring(at, at + 1);
            if (sign.equals(":")) {
                if (at + 1 == text.length() || !text.substring(at + 1, at + 2).matches("[a-z]")) {
                    return at + 1;
                }
            } else if (!sign.matches("[ a-z0-9{}+*/%~<=DXO?RQMLCZNFEWTSGUVP-]")) {
                return at;
            }
            if (text.substring(0, at + 1).matches(".*[0-9]{6}")) {
                return at;
            }
            open += sign.equals("{") ? 1 : sign.equals("}") ? -1 : 0;
            if (open < 0 || open > 8) {
                return at;
            }
        }
        return open > 0 ? text.length() : -1;
    }

    private void again() {
        error = 0;
        errorPlace = 0;
        steps = 0;
        marks = 0;
        pages = new ArrayList<>();
        page = new boolean[48][64];
        stack = new ArrayList<>();
        Arrays.fill(variables, 0);
        path = new ArrayList<>();
        closed = false;
        now = fresh();
        saved = new ArrayList<>();
    }

    /** For a job under way and an n that is allowed. */
    int run(int n) {
        allowed += n;
        again();
        try {
            words(0, text.length(), 0, false);
            state = 2;
        } catch (Pause e) {
            return 0;
        } catch (Failure e) {
            state = 2;
            error = e.error;
        }
        int each = twoSided ? (pages.size() + 1) / 2 : pages.size();
        for (int k = 0; k < copies * each; k++) {
            sheets.add(new Sheet(k));
        }
        return error == 0 ? 1 : 2;
    }

    private void words(int from, int to, int depth, boolean inLoop) {
        int at = from;
        while (at < to) {
            char word = text.charAt(at);
            if (word == ' ') {
                at++;
                continue;
            }
            if (steps == allowed) {
                throw new Pause();
            }
            int end = endOf(at);
            errorPlace = at;
            check(word, depth, inLoop);
            errorPlace = 0;
            steps++;
            step(word, at, end, depth, inLoop);
            at = end;
        }
    }

    private int endOf(int at) {
        int end = at + 1;
        if (Character.isDigit(text.charAt(at))) {
            while (end < text.length() && Character.isDigit(text.charAt(end))) {
                end++;
            }
        } else if (text.charAt(at) == ':') {
            end++;
        } else if (text.charAt(at) == '{') {
            for (int open = 1; open > 0; end++) {
                open += text.charAt(end) == '{' ? 1 : text.charAt(end) == '}' ? -1 : 0;
            }
        }
        return end;
    }

    private static String kinds(char word) {
        return switch (word) {
            case ':', '~', 'G' -> "n";
            case 'D', 'O' -> "x";
            case 'X' -> "xx";
            case '+', '-', '*', '/', '%', '<', '=', 'M', 'L', 'T', 'S' -> "nn";
            case 'R' -> "np";
            case '?' -> "npp";
            case 'C' -> "nnnnnn";
            default -> "";
        };
    }

    private void check(char word, int depth, boolean inLoop) {
        String kinds = kinds(word);
        must(stack.size() >= kinds.length(), 1);
        List<Value> last = stack.subList(stack.size() - kinds.length(), stack.size());
        long[] n = new long[6];
        for (int k = 0; k < kinds.length(); k++) {
            must(kinds.charAt(k) == 'x' || last.get(k).procedure() == (kinds.charAt(k) == 'p'), 2);
            n[k] = last.get(k).number();
        }
        must(withinLimits(word, n), 3);
        must(!(word == '/' || word == '%') || n[1] != 0, 4);
        boolean comes = Character.isDigit(word) || Character.isLowerCase(word) || word == '{' || word == 'D';
        must(!comes || stack.size() < 32, 5);
        must(!(word == '?' || word == 'R' && n[0] > 0) || depth < 20, 5);
        must(!(word == 'L' || word == 'C' || word == 'Z') || !path.isEmpty(), 6);
        int more = word == 'M' ? 1 : word == 'L' ? 1 + (closed ? 1 : 0) : word == 'C' ? 8 + (closed ? 1 : 0) : 0;
        must(places() + more <= 200, 7);
        must(!(word == 'F' || word == 'E') || marks + marksOf(filled(word == 'E')) <= 250, 8);
        must(word != 'P' || pages.size() < 8, 9);
        must(word != 'U' || saved.size() < 4, 10);
        must(word != 'V' || !saved.isEmpty(), 10);
        must(word != 'Q' || inLoop, 11);
        must(steps < limit, 12);
    }

    private static void must(boolean holds, int error) {
        if (!holds) {
            throw new Failure(error);
        }
    }

    private boolean withinLimits(char word, long[] n) {
        switch (word) {
            case '+': return within(n[0] + n[1], 1000000);
            case '-': return within(n[0] - n[1], 1000000);
            case '*': return within(n[0] * n[1], 1000000);
            case 'G': return n[0] >= 0 && n[0] <= 16;
            case 'S': return within(sixteenths(now.sx() * n[0]), 4096) && within(sixteenths(now.sy() * n[1]), 4096);
            case 'M', 'L', 'T': return near(n[0], n[1]);
            case 'C': return near(n[0], n[1]) && near(n[2], n[3]) && near(n[4], n[5]);
            default: return true;
        }
    }

    private static boolean within(long n, long most) {
        return -most <= n && n <= most;
    }

    private boolean near(long x, long y) {
        return within(at(x, y).x(), 100000) && within(at(x, y).y(), 100000);
    }

    private static long sixteenths(long n) {
        long rest = (n % 16 + 16) % 16;
        return (n - rest) / 16;
    }

    private Place at(long x, long y) {
        return new Place(now.tx() + sixteenths(now.sx() * x), now.ty() + sixteenths(now.sy() * y));
    }

    int places() {
        return path.stream().mapToInt(List::size).sum();
    }

    private Value pop() {
        return stack.remove(stack.size() - 1);
    }

    private void push(long number) {
        stack.add(new Value(false, (int) number));
    }

    private void step(char word, int at, int end, int depth, boolean inLoop) {
        if (Character.isDigit(word)) {
            push(Integer.parseInt(text.substring(at, end)));
            return;
        }
        if (Character.isLowerCase(word)) {
            push(variables[word - 'a']);
            return;
        }
        if (word == '{') {
            stack.add(new Value(true, at));
            return;
        }
        int count = kinds(word).length();
        Value[] values = new Value[count];
        int[] n = new int[count];
        for (int k = count - 1; k >= 0; k--) {
            values[k] = pop();
            n[k] = values[k].number();
        }
        if (word == ':') {
            variables[text.charAt(at + 1) - 'a'] = n[0];
        } else if ("?RQ".indexOf(word) >= 0) {
            control(word, n, depth, inLoop);
        } else if ("DXO".indexOf(word) >= 0) {
            shuffle(word, values);
        } else if ("+-*/%~<=".indexOf(word) >= 0) {
            reckon(word, n);
        } else if ("MLCZN".indexOf(word) >= 0) {
            draw(word, n);
        } else {
            use(word, n);
        }
    }

    private void control(char word, int[] n, int depth, boolean inLoop) {
        if (word == 'Q') {
            throw new Leave();
        }
        if (word == '?') {
            int brace = n[0] != 0 ? n[1] : n[2];
            words(brace + 1, endOf(brace) - 1, depth + 1, inLoop);
            return;
        }
        try {
            boolean empty = text.substring(n[1] + 1, endOf(n[1]) - 1).isBlank();
            for (int k = 0; k < n[0] && !empty; k++) {
                words(n[1] + 1, endOf(n[1]) - 1, depth + 1, true);
            }
        } catch (Leave e) {
            return;
        }
    }

    private void shuffle(char word, Value[] values) {
        if (word == 'D') {
            stack.add(values[0]);
            stack.add(values[0]);
        } else if (word == 'X') {
            stack.add(values[1]);
            stack.add(values[0]);
        }
    }

    private void reckon(char word, int[] n) {
        switch (word) {
            case '+' -> push(n[0] + n[1]);
            case '-' -> push(n[0] - n[1]);
            case '*' -> push((long) n[0] * n[1]);
            case '/' -> push(Long.signum((long) n[0] * n[1]) * (Math.abs(n[0]) / Math.abs(n[1])));
            case '%' -> push(Integer.signum(n[0]) * (Math.abs(n[0]) % Math.abs(n[1])));
            case '~' -> push(-n[0]);
            case '<' -> push(n[0] < n[1] ? 1 : 0);
            default -> push(n[0] == n[1] ? 1 : 0);
        }
    }

    private void draw(char word, int[] n) {
        if (word == 'N') {
            noPath();
        } else if (word == 'Z') {
            closed = true;
        } else if (word == 'M') {
            path.add(new ArrayList<>(List.of(at(n[0], n[1]))));
            closed = false;
        } else {
            List<Place> subpath = path.get(path.size() - 1);
            if (closed) {
                subpath = new ArrayList<>(List.of(subpath.get(0)));
                path.add(subpath);
                closed = false;
            }
            if (word == 'L') {
                subpath.add(at(n[0], n[1]));
            } else {
                Place from = subpath.get(subpath.size() - 1);
                curve(subpath, 3, from, at(n[0], n[1]), at(n[2], n[3]), at(n[4], n[5]));
            }
        }
    }

    private static void curve(List<Place> to, int halvings, Place p, Place q, Place r, Place s) {
        if (halvings == 0) {
            to.add(s);
            return;
        }
        Place a = middle(p, q);
        Place b = middle(q, r);
        Place c = middle(r, s);
        Place d = middle(a, b);
        Place f = middle(b, c);
        Place h = middle(d, f);
        curve(to, halvings - 1, p, a, d, h);
        curve(to, halvings - 1, h, f, c, s);
    }

    private static Place middle(Place a, Place b) {
        return new Place(Math.floorDiv(a.x() + b.x(), 2L), Math.floorDiv(a.y() + b.y(), 2L));
    }

    private void noPath() {
        path = new ArrayList<>();
        closed = false;
    }

    private void use(char word, int[] n) {
        Settings s = now;
        switch (word) {
            case 'T' -> now = new Settings(s.sx(), s.sy(), at(n[0], n[1]).x(), at(n[0], n[1]).y(), s.grey(), s.clip());
            case 'S' -> now = new Settings(sixteenths(s.sx() * n[0]), sixteenths(s.sy() * n[1]), s.tx(), s.ty(), s.grey(), s.clip());
            case 'G' -> now = new Settings(s.sx(), s.sy(), s.tx(), s.ty(), n[0], s.clip());
            case 'U' -> saved.add(now);
            case 'V' -> now = saved.remove(saved.size() - 1);
            case 'W' -> now = new Settings(s.sx(), s.sy(), s.tx(), s.ty(), s.grey(), filled(false));
            case 'P' -> {
                pages.add(page);
                page = new boolean[48][64];
                marks = 0;
            }
            default -> paint(filled(word == 'E'));
        }
        if ("WPFE".indexOf(word) >= 0) {
            noPath();
        }
    }

    /** Which pixels of the clip the path goes round. */
    private boolean[][] filled(boolean odd) {
        boolean[][] in = new boolean[48][64];
        for (int y = 0; y < 48; y++) {
            for (int x = 0; x < 64 && !path.isEmpty(); x++) {
                int sum = 0;
                int count = 0;
                for (List<Place> subpath : path) {
                    for (int k = 0; k < subpath.size(); k++) {
                        int turn = turn(subpath.get(k), subpath.get((k + 1) % subpath.size()), 4 * x + 2, 4 * y + 2);
                        sum += turn;
                        count += turn * turn;
                    }
                }
                in[y][x] = now.clip()[y][x] && (odd ? count % 2 == 1 : sum != 0);
            }
        }
        return in;
    }

    private static int turn(Place a, Place b, long cx, long cy) {
        if (a.y() <= cy && cy < b.y()) {
            return (b.x() - a.x()) * (cy - a.y()) <= (cx - a.x()) * (b.y() - a.y()) ? 1 : 0;
        }
        return b.y() <= cy && cy < a.y() ? -turn(b, a, cx, cy) : 0;
    }

    private static int marksOf(boolean[][] in) {
        int count = 0;
        for (boolean[] line : in) {
            for (int x = 0; x < 64; x++) {
                count += line[x] && (x == 0 || !line[x - 1]) ? 1 : 0;
            }
        }
        return count;
    }

    private void paint(boolean[][] in) {
        marks += marksOf(in);
        for (int y = 0; y < 48; y++) {
            for (int x = 0; x < 64; x++) {
                page[y][x] = in[y][x] ? CELLS[y % 4][x % 4] < now.grey() : page[y][x];
            }
        }
    }

    int size() {
        return stack.size();
    }

    int grey() {
        return now.grey();
    }

    /** The k-th value from the uppermost one on. */
    int value(int k) {
        Value value = stack.get(stack.size() - 1 - k);
        return value.procedure() ? 2000000 + value.number() : value.number();
    }

    /** Band b of a page that is kept. */
    List<Integer> band(int number, int b) {
        List<Integer> bytes = new ArrayList<>();
        List<Integer> above = List.of(0, 0, 0, 0, 0, 0, 0, 0);
        int alike = 0;
        for (int y = 8 * b; y < 8 * b + 8; y++) {
            List<Integer> line = octets(pages.get(number)[y]);
            if (line.equals(above)) {
                alike++;
                if (alike > 1) {
                    bytes.remove(bytes.size() - 1);
                }
                bytes.add(192 + alike);
            } else {
                alike = 0;
                bytes.addAll(packed(line));
            }
            above = line;
        }
        return bytes;
    }

    private static List<Integer> octets(boolean[] line) {
        List<Integer> octets = new ArrayList<>();
        for (int k = 0; k < 8; k++) {
            int octet = 0;
            for (int bit = 0; bit < 8; bit++) {
                octet += line[8 * k + bit] ? 128 >> bit : 0;
            }
            octets.add(octet);
        }
        return octets;
    }

    private static List<Integer> packed(List<Integer> line) {
        List<Integer> bytes = new ArrayList<>();
        List<Integer> single = new ArrayList<>();
        int at = 0;
        while (at < 8) {
            int end = at + 1;
            while (end < 8 && line.get(end).equals(line.get(at))) {
                end++;
            }
            if (end - at == 1) {
                single.add(line.get(at));
            }
            if (!single.isEmpty() && (end - at > 1 || end == 8)) {
                bytes.add(single.size());
                bytes.addAll(single);
                single.clear();
            }
            if (end - at > 1) {
                bytes.add(128 + end - at);
                bytes.add(line.get(at));
            }
            at = end;
        }
        return bytes;
    }

    private Sheet in(int section) {
        return sheets.stream().filter(s -> s.where == section).findFirst().orElse(null);
    }

    private long inside() {
        return sheets.stream().filter(s -> s.where >= 0 && s.where < 4).count();
    }

    int press() {
        if (open) {
            return 5;
        }
        if (jammed) {
            return 3;
        }
        if (outs.size() == sheets.size()) {
            return 0;
        }
        return inside() == 0 && tray == 0 ? 4 : heat < 80 ? 1 : 2;
    }

    void tick() {
        ticks++;
        if (open) {
            heat = Math.max(heat - 5, 0);
            sheets.forEach(s -> s.row = 0);
            return;
        }
        heat = outs.size() < sheets.size() ? Math.min(heat + 10, 100) : Math.max(heat - 5, 0);
        if (jammed && inside() == 0 && !sticks[0] && !sticks[1] && !sticks[2] && !sticks[3]) {
            jammed = false;
        }
        if (jammed) {
            return;
        }
        sheets.forEach(s -> s.came = false);
        boolean jam = false;
        for (int section : new int[] {2, 3, 1, 0}) {
            Sheet sheet = in(section);
            if (sheet != null && !sheet.came) {
                jam |= go(sheet);
            }
        }
        if (in(0) == null && in(3) == null && inside() < 2 && tray > 0) {
            sheets.stream().filter(s -> s.where == -1).findFirst().ifPresent(s -> {
                tray--;
                s.sides = 0;
                s.row = 0;
                s.where = 0;
            });
        }
        if (jam) {
            jammed = true;
            jams++;
        }
    }

    /** Whether that jams the press. */
    private boolean go(Sheet sheet) {
        int from = sheet.where;
        int to = from == 2 ? sheet.sides == (twoSided ? 2 : 1) ? 4 : 3 : from == 3 ? 0 : from == 1 ? 2 : 1;
        boolean free = to == 4 || in(to) == null;
        if (!free || from == 0 && heat < 80) {
            sheet.row = 0;
            return false;
        }
        if (sticks[from]) {
            sheet.row++;
            return sheet.row == 4;
        }
        sheet.row = 0;
        sheet.sides += from == 1 ? 1 : 0;
        sheet.where = to;
        sheet.came = true;
        if (to == 4) {
            outs.add(sheet);
        }
        return false;
    }

    void stick(int section, boolean on) {
        sticks[section] = on;
    }

    boolean take(int section) {
        Sheet sheet = in(section);
        if (sheet == null || !open && !jammed) {
            return false;
        }
        sheet.where = -1;
        sheet.row = 0;
        return true;
    }

    int section(int k, int what) {
        Sheet sheet = in(k);
        return what == 2 ? sticks[k] ? 1 : 0 : what == 1 ? sheet == null ? 0 : sheet.sides : sheet == null ? -1 : sheet.number;
    }

    int out(int k, int what) {
        if (k >= outs.size()) {
            return -1;
        }
        int number = outs.get(k).number;
        int each = sheets.size() / copies;
        int first = number % each * (twoSided ? 2 : 1);
        int second = twoSided && first + 1 < pages.size() ? first + 1 : -1;
        return new int[] {number, number / each, first, second}[what];
    }

    int outs() {
        return outs.size();
    }

    int sheets() {
        return sheets.size();
    }
}
