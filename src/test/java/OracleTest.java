import java.util.ArrayList;
import java.util.List;

/** Made-up jobs of paths against a plain and slow reckoning, pixel by pixel and edge by edge. */
public final class OracleTest {
    private static final int JOBS = 1500;
    private static int wrong = 0;
    private static long seed = 20261115L;

    /** A place, and whether a subpath begins with it. */
    private record Place(long x, long y, boolean begins) {
    }

    private final BandPress press = new BandPress();
    private final StringBuilder text = new StringBuilder();
    private final List<Place> path = new ArrayList<>();
    private boolean[][] clip = new boolean[48][64];
    private final boolean[][] black = new boolean[48][64];
    private long sx = 16;
    private long sy = 16;
    private long tx = 0;
    private long ty = 0;
    private int grey = 16;
    private int marks = 0;
    private Place begin = null;
    private Place here = null;
    private boolean closed = false;

    public static void main(String[] args) {
        int full = 0;
        for (int k = 0; k < JOBS; k++) {
            full += new OracleTest().compare(k) ? 1 : 0;
        }
        if (full < 50 || full > JOBS - 50) {
            wrong++;
            System.out.println(full + " of the jobs had too many marks: too few of one kind");
        }
        System.out.println(wrong == 0 ? "all answers are as due" : wrong + " answers are not as due");
        if (wrong != 0) {
            System.exit(1);
        }
    }

    private static int pick(int low, int high) {
        seed = seed * 6364136223846793005L + 1442695040888963407L;
        return low + (int) ((seed >>> 33) % (high - low + 1));
    }

    private boolean compare(int job) {
        for (boolean[] line : clip) {
            java.util.Arrays.fill(line, true);
        }
        boolean full = false;
        if (pick(0, 2) == 0) {
            addPages();
        }
        if (pick(0, 2) == 0) {
            addMatrix();
        }
        if (pick(0, 3) == 0) {
            addShape();
            cut();
        }
        while (!full && text.length() < 150) {
            if (pick(0, 1) == 0) {
                grey = pick(0, 16);
                text.append(grey).append('G');
            }
            addShape();
            full = !fill(pick(0, 1) == 0);
        }
        if (!full) {
            text.append('P');
        }
        send();
        due(job, "start", press.start(1, false, 5000), 0);
        due(job, "run", press.run(5000), full ? 2 : 1);
        due(job, "error", press.job(1), full ? 8 : 0);
        due(job, "marks", press.job(5), full ? marks : 0);
        due(job, "places", press.job(7), full ? path.size() : 0);
        checkPixels(job, full ? -1 : 0);
        if (!full) {
            checkBands(job);
        }
        return full;
    }

    private void due(int job, String what, long got, long want) {
        if (got != want) {
            wrong++;
            System.out.println("job " + job + " (" + text + "): " + what + " answered " + got + ", due is " + want);
        }
    }

    private void send() {
        for (int k = 0; k < text.length(); k++) {
            press.type(text.charAt(k), 1);
        }
    }

    private void number(int n) {
        text.append(Math.abs(n)).append(n < 0 ? '~' : ' ');
    }

    /** The whole page, some times: few marks are left for the rest. */
    private void addPages() {
        int times = pick(1, 4);
        text.append(times).append("{0 0M256 0L256 192L0 192LF}R");
        marks = 48 * times;
        for (boolean[] line : black) {
            java.util.Arrays.fill(line, true);
        }
    }

    private void addMatrix() {
        int x = pick(-30, 30);
        int y = pick(-30, 30);
        number(x);
        number(y);
        text.append('T');
        tx = x;
        ty = y;
        sx = pick(-24, 40);
        sy = pick(-24, 40);
        number((int) sx);
        number((int) sy);
        text.append('S');
    }

    private Place place(int x, int y) {
        number(x);
        number(y);
        long px = tx + (long) Math.floor(sx * x / 16.0);
        long py = ty + (long) Math.floor(sy * y / 16.0);
        return new Place(px, py, false);
    }

    private Place place() {
        int wide = pick(0, 5);
        int far = wide == 0 ? 3000 : wide < 3 ? 40 : 260;
        return place(pick(-far / 4, far), pick(-far / 4, far));
    }

    private void addShape() {
        move();
        for (int k = pick(1, 5); k > 0 && text.length() < 250; k--) {
            int kind = pick(0, 7);
            if (kind == 0) {
                text.append('Z');
                here = begin;
                closed = true;
            } else if (kind == 1) {
                move();
            } else if (kind == 2) {
                Place q = place();
                Place r = place();
                Place s = place();
                text.append('C');
                goOn();
                split(here, q, r, s, 3);
            } else {
                Place p = place();
                text.append('L');
                goOn();
                line(p);
            }
        }
    }

    private void move() {
        Place p = place();
        text.append('M');
        start(p);
    }

    private void start(Place p) {
        begin = p;
        here = p;
        closed = false;
        path.add(new Place(p.x(), p.y(), true));
    }

    private void goOn() {
        if (closed) {
            start(begin);
        }
    }

    private void line(Place p) {
        path.add(p);
        here = p;
    }

    private static Place middle(Place a, Place b) {
        return new Place((long) Math.floor((a.x() + b.x()) / 2.0), (long) Math.floor((a.y() + b.y()) / 2.0), false);
    }

    private void split(Place p, Place q, Place r, Place s, int times) {
        if (times == 0) {
            line(s);
            return;
        }
        Place a = middle(p, q);
        Place b = middle(q, r);
        Place c = middle(r, s);
        Place d = middle(a, b);
        Place f = middle(b, c);
        Place h = middle(d, f);
        split(p, a, d, h, times - 1);
        split(h, f, c, s, times - 1);
    }

    /** How often the path goes round a centre: with signs, or each edge once. */
    private int round(long cx, long cy, boolean signs) {
        int sum = 0;
        Place first = null;
        for (int k = 0; k < path.size(); k++) {
            Place from = path.get(k);
            first = from.begins() ? from : first;
            Place to = k + 1 < path.size() && !path.get(k + 1).begins() ? path.get(k + 1) : first;
            int way = from.y() <= cy && cy < to.y() ? 1 : to.y() <= cy && cy < from.y() ? -1 : 0;
            if (way != 0) {
                long left = (cy - from.y()) * (to.x() - from.x());
                long right = (cx - from.x()) * (to.y() - from.y());
                boolean counts = way == 1 ? left <= right : left >= right;
                sum += counts ? signs ? way : 1 : 0;
            }
        }
        return sum;
    }

    private boolean[][] inside(boolean odd) {
        boolean[][] in = new boolean[48][64];
        for (int y = 0; y < 48; y++) {
            for (int x = 0; x < 64; x++) {
                int sum = round(4 * x + 2, 4 * y + 2, !odd);
                in[y][x] = clip[y][x] && (odd ? sum % 2 == 1 : sum != 0);
            }
        }
        return in;
    }

    private void cut() {
        text.append('W');
        clip = inside(false);
        path.clear();
    }

    private boolean fill(boolean odd) {
        text.append(odd ? 'E' : 'F');
        boolean[][] in = inside(odd);
        int more = 0;
        for (boolean[] line : in) {
            for (int x = 0; x < 64; x++) {
                more += line[x] && (x == 0 || !line[x - 1]) ? 1 : 0;
            }
        }
        if (marks + more > 250) {
            return false;
        }
        marks += more;
        paint(in);
        path.clear();
        return true;
    }

    private void paint(boolean[][] in) {
        int[][] cells = {{0, 8, 2, 10}, {12, 4, 14, 6}, {3, 11, 1, 9}, {15, 7, 13, 5}};
        for (int y = 0; y < 48; y++) {
            for (int x = 0; x < 64; x++) {
                black[y][x] = in[y][x] ? cells[y % 4][x % 4] < grey : black[y][x];
            }
        }
    }

    private void checkPixels(int job, int page) {
        int differ = 0;
        for (int y = 0; y < 48; y++) {
            for (int x = 0; x < 64; x++) {
                differ += press.pixel(page, x, y) == black[y][x] ? 0 : 1;
            }
        }
        due(job, "pixels that differ", differ, 0);
    }

    private List<Integer> octets(int y) {
        List<Integer> row = new ArrayList<>();
        for (int k = 0; k < 8; k++) {
            int octet = 0;
            for (int x = 0; x < 8; x++) {
                octet = octet * 2 + (y >= 0 && black[y][8 * k + x] ? 1 : 0);
            }
            row.add(octet);
        }
        return row;
    }

    private List<Integer> packed(int b) {
        List<Integer> all = new ArrayList<>();
        int same = 0;
        for (int y = 8 * b; y < 8 * b + 8; y++) {
            if (octets(y).equals(octets(y == 8 * b ? -1 : y - 1))) {
                same++;
                continue;
            }
            if (same > 0) {
                all.add(192 + same);
            }
            same = 0;
            packLine(all, octets(y));
        }
        if (same > 0) {
            all.add(192 + same);
        }
        return all;
    }

    private static void packLine(List<Integer> all, List<Integer> row) {
        List<Integer> alone = new ArrayList<>();
        int at = 0;
        while (at < 8) {
            int end = at + 1;
            while (end < 8 && row.get(end).equals(row.get(at))) {
                end++;
            }
            if (end - at == 1) {
                alone.add(row.get(at));
            } else {
                flush(all, alone);
                all.add(128 + end - at);
                all.add(row.get(at));
            }
            at = end;
        }
        flush(all, alone);
    }

    private static void flush(List<Integer> all, List<Integer> alone) {
        if (!alone.isEmpty()) {
            all.add(alone.size());
            all.addAll(alone);
            alone.clear();
        }
    }

    private void checkBands(int job) {
        for (int b = 0; b < 6; b++) {
            List<Integer> want = packed(b);
            due(job, "band " + b, press.band(0, b), want.size());
            for (int k = 0; k < want.size(); k++) {
                due(job, "octet " + k + " of band " + b, press.octet(0, b, k), want.get(k));
            }
        }
    }
}
