import java.util.Arrays;

/** The edges of paths, places, filling, clips, marks, pages and bands: each sentence that names one, on both sides. */
public final class PageEdges {
    private static final String ALL = "0 0M256 0L256 192L0 192LF ";
    private static final int[] CELLS = {0, 8, 2, 10, 12, 4, 14, 6, 3, 11, 1, 9, 15, 7, 13, 5};

    public static void main(String[] args) {
        noPlaceToGoOnFrom();
        whatEndsThePath();
        twoHundredPlaces();
        placesBehindAZ();
        eighthsOfACurve();
        placesBeyond();
        placesDownwards();
        stretchesBeyond();
        stretchesDownwards();
        greys();
        fourSaved();
        whatIsTakenBack();
        heightOfAnEdge();
        meetingAtACentre();
        meetingExactly();
        roundACentre();
        closedSubpaths();
        rimOfThePage();
        cells();
        clip();
        clipThatCutsStretches();
        stretchesOfALine();
        marksOfAPage();
        eightPages();
        pixelEdges();
        linesAlike();
        bytesAlike();
        bandEdges();
        octetEdges();
        Check.end();
    }

    private static void places(String text, int places) {
        Check.due("places of " + Check.brief(text), Check.fine(text).job(7), places);
    }

    /** A number as a text of the job. */
    private static String number(int n) {
        return n < 0 ? -n + "~" : n + " ";
    }

    /** A subpath with these four sides. */
    private static String box(int left, int top, int right, int bottom) {
        String a = number(left);
        String b = number(top);
        String c = number(right);
        String d = number(bottom);
        return a + b + "M" + c + b + "L" + c + d + "L" + a + d + "L";
    }

    // "6: no place to go on from (L, C, Z without a path)"
    private static void noPlaceToGoOnFrom() {
        Check.fails("1 1L", 6, 3);
        Check.fails("1 2 3 4 5 6C", 6, 11);
        Check.fails("Z", 6, 0);
        places("1 1M1 1L", 2);
        places("1 1M1 2 3 4 5 6C", 9);
        places("1 1MZ", 1);
        places("1 1MZZZ", 1);
        places("N", 0);
        Check.fine("FEWP");
    }

    // "N: no path"; "behind F, E, W there is no path"; P: "there is no path"
    private static void whatEndsThePath() {
        for (String word : new String[] {"N", "F", "E", "W", "P"}) {
            places("1 1M2 2L" + word, 0);
            Check.fails("1 1M2 2L" + word + "Z", 6, 9);
            Check.fails("1 1M2 2L" + word + "3 3L", 6, 12);
            places("1 1MZ" + word + "3 3M4 4L", 2);
        }
        places("1 1M2 2L 5G U V 8 8S 1 1T", 2);
    }

    // "7: the path would have more than 200 places (those where it begins and lines end; a curve has eight)"
    private static void twoHundredPlaces() {
        places("200{1 1M}R", 200);
        Check.fails("201{1 1M}R", 7, 7);
        places("1 1M199{2 2L}R", 200);
        Check.fails("1 1M200{2 2L}R", 7, 11);
        for (int k = 185; k <= 200; k++) {
            String before = k + "{1 1M}R";
            if (k <= 192) {
                places(before + "1 2 3 4 5 6C", k + 8);
            } else {
                Check.fails(before + "1 2 3 4 5 6C", 7, before.length() + 11);
            }
        }
        places("24{1 1M1 2 3 4 5 6CN}R", 0);
        places("8 8M24{1 2 3 4 5 6C}R 1 1M6{2 2L}R", 200);
        Check.fails("8 8M25{1 2 3 4 5 6C}R", 7, 18);
        places("200{1 1M}RZ", 200);
        places("200{1 1M}RN200{1 1M}R", 200);
    }

    // "Behind a Z a line or curve begins a SUBPATH at the place"; "the place is that where it began"
    private static void placesBehindAZ() {
        places("1 1M2 2L3 3LZ", 3);
        places("1 1M2 2L3 3LZ4 4L", 5);
        places("1 1M2 2L3 3LZ4 4L5 5L", 6);
        places("1 1M2 2LZZ4 4L", 4);
        places("1 1M2 2LZ1 2 3 4 5 6C", 11);
        places("1 1M2 2LZ4 4M", 3);
        places("198{1 1M}RZ2 2L", 200);
        Check.fails("199{1 1M}RZ2 2L", 7, 14);
        places("199{1 1M}R2 2L", 200);
        places("191{1 1M}RZ1 2 3 4 5 6C", 200);
        Check.fails("192{1 1M}RZ1 2 3 4 5 6C", 7, 22);
        // a triangle, closed, and another one from where it began
        BandPress x = Check.fine("40 40M80 40L80 80LZ40 80L80 80LF");
        Check.due("in the first triangle", x.pixel(-1, 18, 12), true);
        Check.due("in the second triangle", x.pixel(-1, 12, 18), true);
        // without the Z the line goes on from 80 80, and there is no second triangle
        BandPress on = Check.fine("40 40M80 40L80 80L40 80L80 80LF");
        Check.due("the same without a Z", on.pixel(-1, 12, 18), false);
        // twice closed: the second subpath begins where the first one did, and so does the third
        BandPress twice = Check.fine("40 40M80 40L80 80LZ40 80L80 80LZ0 40L0 0LF");
        Check.due("in the third triangle", twice.pixel(-1, 2, 8), true);
        Check.due("beside it", twice.pixel(-1, 8, 2), false);
        // where the last subpath began, not the first one
        BandPress last = Check.fine("200 160M200 180L180 160L 40 40M80 40L80 80LZ40 80L80 80LF");
        Check.due("from where the second one began", last.pixel(-1, 12, 18), true);
        Check.due("not from where the first one did", last.pixel(-1, 35, 30), false);
        // a path that is gone leaves no Z behind
        places("1 1M2 2LZN3 3M4 4L", 2);
        places("1 1M2 2LZF3 3M4 4L", 2);
        places("1 1M2 2LZP3 3M1 2 3 4 5 6C", 9);
        places("1 1M2 2LZ3 3M4 4L", 4);
    }

    // "each the half of the sum, downwards, of X and of Y"; "eight lines go to the ends of the eighths"
    private static void eighthsOfACurve() {
        int[][] curves = {
            {327, 43, -90, -146, -75, 381, 339, 103}, {83, -286, 1, 90, -166, 367, 396, -156},
            {182, 50, 54, -89, -67, 271, 52, -122}, {-36, 317, 1, 34, 394, 39, 91, -236}};
        int[][] ends = {
            {189, 1, 93, 10, 36, 50, 20, 105, 42, 155, 103, 183, 201, 171, 339, 103},
            {48, -152, 17, -35, -4, 56, -3, 115, 26, 129, 97, 95, 216, 2, 396, -156},
            {134, 17, 90, 18, 51, 36, 23, 58, 5, 67, 3, 50, 17, -9, 52, -122},
            {-9, 222, 41, 149, 98, 88, 154, 36, 192, -17, 203, -75, 173, -147, 91, -236}};
        for (int k = 0; k < curves.length; k++) {
            String from = (k == 0 ? "" : "9 5M9 70L") + number(curves[k][0]) + number(curves[k][1]) + (k % 2 == 0 ? "M" : "L");
            StringBuilder curve = new StringBuilder(from);
            StringBuilder lines = new StringBuilder(from);
            for (int at = 2; at < 8; at++) {
                curve.append(number(curves[k][at]));
            }
            for (int at = 0; at < 16; at += 2) {
                lines.append(number(ends[k][at])).append(number(ends[k][at + 1])).append("L");
            }
            for (String behind : new String[] {"", "F", "E", "20 20LF", "ZF", "Z20 20L9 9LF", "20 20L100 9~9 100 9 9CF"}) {
                long[] is = Check.look(Check.ended(curve + "C" + behind, 1, false));
                long[] want = Check.look(Check.ended(lines + behind, 1, false));
                is[4] = want[4];
                Check.due("what curve " + k + " with " + behind + " does otherwise than its lines", Check.differs(want, is), -1);
            }
        }
    }

    /** Zeros for a word, but for one of them. */
    private static String values(int count, int at, int value) {
        StringBuilder text = new StringBuilder();
        for (int k = 0; k < count; k++) {
            text.append(number(k == at ? value : 0));
        }
        return text.toString();
    }

    // "X, Y beyond 100000"
    private static void placesBeyond() {
        String[] words = {"M", "L", "T", "C"};
        int[] counts = {2, 2, 2, 6};
        for (int w = 0; w < words.length; w++) {
            for (int at = 0; at < counts[w]; at++) {
                for (int sign = -1; sign <= 1; sign += 2) {
                    String before = "1 1M" + values(2, at % 2, 99999 * sign) + "T";
                    Check.fine(before + values(counts[w], at, sign) + words[w]);
                    String beyond = before + values(counts[w], at, 2 * sign);
                    Check.fails(beyond + words[w], 3, beyond.length());
                    Check.fine(before + values(counts[w], at, -100 * sign) + words[w]);
                }
            }
        }
        // 256 times 390 is 99840, 256 times 391 is 100096
        Check.fine("4096 16S390 0M");
        Check.fails("4096 16S391 0M", 3, 13);
        Check.fine("16 4096~S0 390M");
        Check.fails("16 4096~S0 391M", 3, 14);
        Check.fails("4096D S1000 1000*D M", 3, 19);
    }

    // "X = tx + sx * x / 16 .. (downwards)"; "T: tx, ty become what X, Y are for it"
    private static void placesDownwards() {
        // sx is 1 and tx 16: the left rim is at 6 up to -145, at 7 from -144 on
        for (int x = -161; x <= -128; x++) {
            boolean painted = 16 + Math.floorDiv(x, 16) <= 6;
            BandPress across = Check.fine("16 0T1 16S" + box(x, 0, 384, 16) + "F");
            Check.due("pixel 1 behind a rim at " + x, across.pixel(-1, 1, 0), painted);
            BandPress down = Check.fine("0 16T16 1S" + box(0, x, 16, 384) + "F");
            Check.due("pixel 1 under a rim at " + x, down.pixel(-1, 0, 1), painted);
            BandPress moved = Check.fine("16 16T1 1S" + number(x) + number(x) + "T" + box(0, 0, 384, 384) + "F");
            Check.due("pixel 1 1 moved to " + x, moved.pixel(-1, 1, 1), painted);
        }
        String low = "99999~99999~T1~1~T1 1S";
        Check.fine(low + "0 15M15 0M");
        Check.fails(low + "1~0M", 3, low.length() + 3);
        Check.fails(low + "0 1~M", 3, low.length() + 4);
        String high = "99999 99999T1 1T1 1S";
        Check.fine(high + "15 15M");
        Check.fails(high + "16 0M", 3, high.length() + 4);
        Check.fails(high + "0 16T", 3, high.length() + 4);
    }

    // "sx, sy beyond 4096 either side"
    private static void stretchesBeyond() {
        for (int sign = -1; sign <= 1; sign += 2) {
            for (int at = 0; at < 2; at++) {
                Check.fine(values(2, at, 4096 * sign) + "S");
                String beyond = values(2, at, 4097 * sign);
                Check.fails(beyond + "S", 3, beyond.length());
            }
        }
        Check.fine("4096 4096S16 16S");
        Check.fails("4096 4096S17 16S", 3, 15);
        Check.fails("4096 4096S16 17S", 3, 15);
        Check.fine("4096 4096S16~16~S");
        Check.fails("4096 4096S17~16S", 3, 15);
        Check.fine("0 0S1000 1000*DS1 1M");
        Check.fails("1000 1000*D S", 3, 12);
    }

    // "S: sx becomes sx * x / 16 (downwards), sy likewise"
    private static void stretchesDownwards() {
        Check.fine("1 1S65551 65551S");
        Check.fails("1 16S65552 16S", 3, 13);
        Check.fine("1 1S65536~65536~S");
        Check.fails("1 16S65537~16S", 3, 13);
        Check.fails("16 1S16 65537~S", 3, 14);
        // -1 / 16 is -1 downwards: so it stays -1, and 64 of it are -4
        BandPress x = Check.fine("1~16S1 16S" + "64~0M0 0L0 16L64~16LF");
        Check.due("from 0 to 4", x.pixel(-1, 0, 0), true);
        Check.due("not beyond", x.pixel(-1, 1, 0), false);
        // 15 / 16 is 0
        BandPress none = Check.fine("1 16S15 16S" + "0 0M1000 0L1000 16L0 16LF");
        Check.due("no width", none.job(5), 0);
    }

    // "G (0 .. 16): the GREY"; "a GREY that is none"
    private static void greys() {
        for (int grey = 0; grey <= 16; grey++) {
            Check.due("grey " + grey, Check.fine(grey + "G").job(8), grey);
        }
        Check.fails("17G", 3, 2);
        Check.fails("1~G", 3, 2);
        Check.fails("1000 1000*G", 3, 10);
        Check.fails("1000 1000*~G", 3, 11);
        Check.due("the grey stays", Check.fails("5G17G", 3, 4).job(8), 5);
    }

    // "U: MATRIX, GREY, CLIP are saved (at most 4)"; "10: nothing saved, or four"
    private static void fourSaved() {
        Check.fine("UUUU");
        Check.fails("UUUUU", 10, 4);
        Check.fails("V", 10, 0);
        Check.fine("UV");
        Check.fails("UVV", 10, 2);
        Check.fine("UUUUVVVV");
        Check.fails("UUUUVVVVV", 10, 8);
        Check.fine("UUUUVU");
        Check.fails("UUUUVUU", 10, 6);
        Check.fine("9{UV}R");
        // pages do not touch what is saved
        Check.fine("UPV");
    }

    // "V: the latest saved ones are taken back"
    private static void whatIsTakenBack() {
        BandPress x = Check.played(Check.begun("1G U 2G U 3G U 4G U 5G V V V V"));
        x.run(14);
        for (int grey = 5; grey >= 1; grey--) {
            Check.due("grey", x.job(8), grey);
            Check.run(x, 1);
        }
        String square = box(0, 0, 16, 16) + "F";
        for (String change : new String[] {"8 16S", "16 8S", "9 0T", "0 9T", "0 0M4 0L4 4LW", "W"}) {
            long[] plain = Check.look(Check.ended(square, 1, false));
            long[] back = Check.look(Check.ended("U" + change + "V" + square, 1, false));
            back[4] = plain[4];
            Check.due("what is otherwise behind U " + change + " V", Check.differs(plain, back), -1);
            long[] kept = Check.look(Check.ended(change + "U 3G 9 9T 9 9SW V" + square, 1, false));
            long[] same = Check.look(Check.ended(change + square, 1, false));
            kept[4] = same[4];
            Check.due("what is otherwise when " + change + " is saved", Check.differs(same, kept), -1);
        }
        // what is saved stays in force
        for (String change : new String[] {"8 16S", "16 8S", "9 0T", "0 9T", "0 0M4 0L4 4LW", "W", "5G"}) {
            long[] plain = Check.look(Check.ended(change + square, 1, false));
            long[] saved = Check.look(Check.ended(change + "UU" + square, 1, false));
            saved[4] = plain[4];
            Check.due("what is otherwise behind " + change + " U", Check.differs(plain, saved), -1);
        }
        Check.due("the path is not saved", Check.fine("U 1 1M 2 2L V").job(7), 2);
        Check.due("variables are not saved", Check.fine("U 5:a V").variable(0), 5);
    }

    // "if Y0 <= CY < Y1 (1) or Y1 <= CY < Y0 (-1)"
    private static void heightOfAnEdge() {
        for (int top = 3; top <= 9; top++) {
            for (int bottom = top + 1; bottom <= 14; bottom++) {
                BandPress right = Check.fine(box(0, top, 16, bottom) + "F");
                BandPress left = Check.fine(box(16, top, 0, bottom) + "F");
                for (int y = 0; y < 5; y++) {
                    boolean in = top <= 4 * y + 2 && 4 * y + 2 < bottom;
                    Check.due("line " + y + " from " + top + " to " + bottom, right.pixel(-1, 1, y), in);
                    Check.due("the same the other way round", left.pixel(-1, 1, y), in);
                }
            }
        }
        // an edge that lies in the line of the centres counts for none of them
        Check.due("a flat path", Check.fine("0 6M40 6L20 6LF").job(5), 0);
    }

    // "it meets the line through CY at CX or to the left of it"
    private static void meetingAtACentre() {
        for (int left = 1; left <= 11; left++) {
            for (int right = left + 1; right <= 16; right++) {
                BandPress x = Check.fine(box(left, 0, right, 16) + "F");
                for (int k = 0; k < 5; k++) {
                    boolean in = left <= 4 * k + 2 && 4 * k + 2 < right;
                    Check.due("pixel " + k + " from " + left + " to " + right, x.pixel(-1, k, 1), in);
                }
            }
        }
    }

    // ".., exactly"
    private static void meetingExactly() {
        // at CY = 6 the left edge is at 6 and 6 / 99999, at 6, and at 6 less 1 / 99999
        BandPress right = Check.fine("6 0M7 99999L20 99999L20 0LF");
        Check.due("a little to the right", right.pixel(-1, 1, 1), false);
        Check.due("the next centre", right.pixel(-1, 2, 1), true);
        BandPress at = Check.fine("6 0M6 99999L20 99999L20 0LF");
        Check.due("at the centre", at.pixel(-1, 1, 1), true);
        BandPress left = Check.fine("5 99992~M6 7L20 7L20 99992~LF");
        Check.due("a little to the left", left.pixel(-1, 1, 1), true);
        Check.due("the centre before", left.pixel(-1, 0, 1), false);
        // the same as right rims: what meets at the centre or to the left of it ends the stretch
        BandPress far = Check.fine("0 0M6 0L7 99999L0 99999LF");
        Check.due("ends behind the centre", far.pixel(-1, 1, 1), true);
        BandPress exact = Check.fine("0 0M6 0L6 99999L0 99999LF");
        Check.due("ends at the centre", exact.pixel(-1, 1, 1), false);
        // from -100000 to 100000 across the whole page, through 6, 6
        BandPress wide = Check.fine("99994~99994~M99999 99999L99999 99994~LF");
        for (int k = 0; k < 48; k++) {
            Check.due("on the slope", wide.pixel(-1, k, k), true);
            Check.due("left of it", wide.pixel(-1, k - 1, k), false);
            Check.due("right of it", wide.pixel(-1, k + 1, k), true);
        }
    }

    // "F: where the sum is not 0; E: where the number of those that count is odd"
    private static void roundACentre() {
        String once = box(0, 0, 40, 40);
        String against = "0 0M0 40L40 40L40 0L";
        String[] paths = {"N", once, against, once + once, once + against, once + once + once, once + once + against,
            once + once + against + against, against + against};
        boolean[] filled = {false, true, true, true, false, true, true, false, true};
        boolean[] odd = {false, true, true, false, false, true, true, false, false};
        for (int k = 0; k < paths.length; k++) {
            Check.due("F of path " + k, Check.fine(paths[k] + "F").pixel(-1, 5, 5), filled[k]);
            Check.due("E of path " + k, Check.fine(paths[k] + "E").pixel(-1, 5, 5), odd[k]);
            Check.due("W of path " + k, Check.fine(paths[k] + "W" + ALL).pixel(-1, 5, 5), filled[k]);
        }
    }

    // "each SUBPATH counts as closed"
    private static void closedSubpaths() {
        Check.due("no line", Check.fine("8 8MF").job(5), 0);
        Check.due("one line", Check.fine("8 8M8 40LE").job(5), 0);
        Check.due("one line and back", Check.fine("8 8M40 40L8 8LE").job(5), 0);
        Check.due("two lines", Check.fine("0 0M40 0L0 40LF").job(5), Check.fine("0 0M40 0L0 40L0 0LF").job(5));
        Check.due("two lines and a Z", Check.fine("0 0M40 0L0 40LZF").job(5), Check.fine("0 0M40 0L0 40LF").job(5));
        BandPress two = Check.fine("0 0M16 0L16 16L0 16L 80 80M96 80L96 96L80 96LF");
        Check.due("the first one is closed at its own place", two.pixel(-1, 1, 1), true);
        Check.due("the second one", two.pixel(-1, 21, 21), true);
        Check.due("nothing between them", two.pixel(-1, 12, 12), false);
        Check.due("marks of both", two.job(5), 8);
    }

    // "A PAGE has 64 x 48 pixels, white at first; x goes to the right, y down."
    private static void rimOfThePage() {
        BandPress x = Check.fine("99999~99999~M99999 99999~L99999 99999L99999~99999LF");
        for (int k = 0; k < 64; k++) {
            Check.due("the upper rim", x.pixel(-1, k, 0), true);
            Check.due("the lower rim", x.pixel(-1, k, 47), true);
        }
        for (int k = 0; k < 48; k++) {
            Check.due("the left rim", x.pixel(-1, 0, k), true);
            Check.due("the right rim", x.pixel(-1, 63, k), true);
        }
        Check.due("a mark a line", x.job(5), 48);
        Check.due("beyond the right rim", Check.fine(box(255, 0, 400, 192) + "F").job(5), 0);
        Check.due("just within it", Check.fine(box(254, 0, 400, 192) + "F").job(5), 48);
        Check.due("beyond the left rim", Check.fine(box(-80, 0, 2, 192) + "F").job(5), 0);
        Check.due("just within it", Check.fine(box(-80, 0, 3, 192) + "F").job(5), 48);
        Check.due("above the page", Check.fine(box(0, -80, 256, 2) + "F").job(5), 0);
        Check.due("just within it", Check.fine(box(0, -80, 256, 3) + "F").job(5), 1);
        Check.due("below the page", Check.fine(box(0, 191, 256, 400) + "F").job(5), 0);
        Check.due("just within it", Check.fine(box(0, 190, 256, 400) + "F").job(5), 1);
        BandPress corner = Check.fine(box(252, 0, 256, 4) + "F");
        Check.due("to the right", corner.pixel(-1, 63, 0), true);
        Check.due("not down", corner.pixel(-1, 0, 47), false);
        for (int y = 0; y < 48; y++) {
            Check.due("white at first", Check.fine("N").pixel(-1, y, y), false);
        }
    }

    // "black where the cell's number is below the GREY, else white"
    private static void cells() {
        for (int grey = 0; grey <= 16; grey++) {
            BandPress white = Check.fine(grey + "G" + ALL);
            BandPress black = Check.fine(ALL + grey + "G" + ALL);
            for (int k = 0; k < 16; k++) {
                boolean dark = CELLS[k] < grey;
                Check.due("cell " + k + " of grey " + grey, white.pixel(-1, k % 4, k / 4), dark);
                Check.due("cell " + k + " painted over", black.pixel(-1, k % 4, k / 4), dark);
                Check.due("the last cell", white.pixel(-1, 60 + k % 4, 44 + k / 4), dark);
                Check.due("another one", white.pixel(-1, 24 + k % 4, 20 + k / 4), dark);
            }
        }
        // cells go from the page's corner on, not from the path's
        BandPress x = Check.fine("1G" + box(4, 4, 40, 40) + "F");
        Check.due("the first cell's corner", x.pixel(-1, 4, 4), true);
        Check.due("the path's corner", x.pixel(-1, 1, 1), false);
    }

    // "W: the CLIP becomes what it has in common with what F would fill"; "Pixels in the CLIP (all at first) are painted"
    private static void clip() {
        BandPress x = Check.fine(box(8, 8, 16, 16) + "W" + ALL);
        for (int k = 0; k < 48; k++) {
            Check.due("pixel " + k, x.pixel(-1, k, k), k == 2 || k == 3);
        }
        Check.due("marks in it", x.job(5), 2);
        BandPress both = Check.fine(box(8, 8, 16, 16) + "W" + box(12, 12, 20, 20) + "W" + ALL);
        for (int k = 0; k < 6; k++) {
            Check.due("pixel " + k + " of both", both.pixel(-1, k, k), k == 3);
        }
        Check.due("marks in both", both.job(5), 1);
        Check.due("nothing in common", Check.fine(box(0, 0, 8, 8) + "W" + box(8, 8, 16, 16) + "W" + ALL).job(5), 0);
        Check.due("no path", Check.fine("W" + ALL).job(5), 0);
        Check.due("W has no marks", Check.fine(box(0, 0, 256, 192) + "W").job(5), 0);
        BandPress kept = Check.fine(ALL + box(0, 0, 8, 8) + "W0G" + ALL);
        Check.due("painted white in it", kept.pixel(-1, 1, 1), false);
        Check.due("left black beyond it", kept.pixel(-1, 2, 1), true);
        Check.due("left black below it", kept.pixel(-1, 1, 2), true);
        Check.due("it stays for the next page", Check.fine(box(0, 0, 8, 8) + "WP" + ALL).job(5), 2);
    }

    private static void clipThatCutsStretches() {
        // a clip of three columns: a line from rim to rim is three stretches
        String columns = box(0, 0, 8, 192) + box(40, 0, 48, 192) + box(248, 0, 256, 192) + "W";
        Check.due("three a line", Check.fine(columns + box(0, 0, 256, 4) + "F").job(5), 3);
        Check.due("two of them", Check.fine(columns + box(8, 0, 256, 4) + "F").job(5), 2);
        Check.due("none between them", Check.fine(columns + box(8, 0, 40, 4) + "F").job(5), 0);
    }

    // "of each line as many as there are stretches of pixels that are painted .. each as long as can be"
    private static void stretchesOfALine() {
        Check.due("one pixel", Check.fine(box(0, 0, 4, 4) + "F").job(5), 1);
        Check.due("two side by side", Check.fine(box(0, 0, 4, 4) + box(4, 0, 8, 4) + "F").job(5), 1);
        Check.due("two apart", Check.fine(box(0, 0, 4, 4) + box(8, 0, 12, 4) + "F").job(5), 2);
        Check.due("one above the other", Check.fine(box(0, 0, 4, 8) + "F").job(5), 2);
        Check.due("at the rims", Check.fine(box(0, 0, 4, 4) + box(252, 0, 256, 4) + "F").job(5), 2);
        Check.due("from the end to the next line's beginning", Check.fine(box(252, 0, 256, 4) + box(0, 4, 4, 8) + "F").job(5), 2);
        // 32 stretches are the most that a line has
        Check.due("every second pixel", Check.fine("32{a 0Ma 4+0La 4+4La 4La 8+:a}RF").job(5), 32);
        Check.due("white ones count as well", Check.fine("0G" + box(0, 0, 40, 40) + "F").job(5), 10);
        Check.due("grey ones are one stretch", Check.fine("8G" + box(0, 0, 40, 40) + "F").job(5), 10);
        Check.due("each fill counts", Check.fine(box(0, 0, 4, 4) + "F" + box(0, 0, 4, 4) + "E").job(5), 2);
    }

    // "a page has at most 250 MARKS"; "8: too many MARKS"
    private static void marksOfAPage() {
        String most = "5{" + ALL + "}R" + box(0, 0, 4, 40);
        for (String word : new String[] {"F", "E"}) {
            Check.due("250 marks by " + word, Check.fine(most + word).job(5), 250);
            String more = "5{" + ALL + "}R" + box(0, 0, 4, 44);
            BandPress x = Check.fails(more + word, 8, more.length());
            Check.due("240 stay", x.job(5), 240);
            Check.due("the path stays", x.job(7), 4);
            String full = most + "F" + box(0, 0, 4, 4);
            Check.fails(full + word, 8, full.length());
            Check.due("nothing more on a full page", Check.fine(most + "F" + box(0, 0, 1, 1) + word).job(5), 250);
            Check.due("marks of the next page", Check.fine(most + "FP" + box(0, 0, 4, 4) + word).job(5), 1);
        }
        Check.fine(most + "F" + box(0, 0, 40, 40) + "W");
        // in one fill: 8 stretches in 31 lines are 248
        String comb = "8{a 0Ma 4+0La 4+124La 124La 8+:a}R";
        Check.due("248 at once", Check.fine(comb + "F").job(5), 248);
        Check.due("two more", Check.fine(comb + box(0, 140, 4, 148) + "F").job(5), 250);
        String many = comb + box(0, 140, 4, 152);
        Check.fails(many + "F", 8, many.length());
        Check.fails(many + "E", 8, many.length());
    }

    // "P: the page ends, and is kept; the next one is white"; "9: a ninth page"
    private static void eightPages() {
        for (int pages = 0; pages <= 8; pages++) {
            Check.due(pages + " pages", Check.fine(pages + "{P}R").job(3), pages);
        }
        BandPress x = Check.fails("9{P}R", 9, 2);
        Check.due("eight are kept", x.job(3), 8);
        BandPress drawn = Check.fails("8{" + ALL + "P}R 1 1M P", 9, 37);
        Check.due("the path stays", drawn.job(7), 1);
        Check.due("the eighth page", drawn.pixel(7, 63, 47), true);
        Check.due("the ninth one is white", drawn.pixel(-1, 63, 47), false);
        BandPress next = Check.fine(ALL + "P" + box(0, 0, 4, 4) + "FPN");
        Check.due("the first page", next.pixel(0, 63, 47), true);
        Check.due("the second page was white", next.pixel(1, 63, 47), false);
        Check.due("the second page", next.pixel(1, 0, 0), true);
        Check.due("the third page is white", next.pixel(-1, 0, 0), false);
        Check.due("without marks", next.job(5), 0);
    }

    // "of a page that is kept (0, 1, ..), or of the one under way (-1; ..); false if there is none such"
    private static void pixelEdges() {
        Check.Play play = Check.ended("2{" + ALL + "P}R" + ALL, 1, false);
        BandPress x = Check.played(play);
        for (int page = -1; page <= 1; page++) {
            Check.due("0 0 of page " + page, x.pixel(page, 0, 0), true);
            Check.due("63 0 of page " + page, x.pixel(page, 63, 0), true);
            Check.due("0 47 of page " + page, x.pixel(page, 0, 47), true);
            Check.due("63 47 of page " + page, x.pixel(page, 63, 47), true);
        }
        Check.State state = new Check.State("two black pages", play);
        int[][] outside = {
            {-2, 0, 0}, {2, 0, 0}, {8, 0, 0}, {Integer.MIN_VALUE, 0, 0}, {Integer.MAX_VALUE, 0, 0},
            {0, -1, 0}, {0, 64, 0}, {0, 0, -1}, {0, 0, 48}, {-1, -1, 0}, {-1, 64, 0}, {-1, 0, -1}, {-1, 0, 48},
            {1, -1, 5}, {1, 64, 5}, {1, 5, -1}, {1, 5, 48}, {0, Integer.MIN_VALUE, 0}, {0, Integer.MAX_VALUE, 0},
            {0, 0, Integer.MIN_VALUE}, {0, 0, Integer.MAX_VALUE}, {-1, Integer.MIN_VALUE, Integer.MAX_VALUE}};
        for (int[] at : outside) {
            String call = "pixel(" + at[0] + ", " + at[1] + ", " + at[2] + ")";
            state.unchangedBy(call, y -> y.pixel(at[0], at[1], at[2]) ? 1 : 0, 0);
        }
        state.unchangedBy("pixel(0, 0, 0)", y -> y.pixel(0, 0, 0) ? 1 : 0, 1);
        // under way, ended, and white before one
        BandPress running = Check.played(Check.begun(ALL + "1 2").then(y -> y.run(13)));
        Check.due("under way", running.pixel(-1, 0, 0), true);
        running.run(9);
        Check.due("that which was", running.pixel(-1, 0, 0), true);
        Check.due("not kept", running.pixel(0, 0, 0), false);
        Check.due("before the next one", Check.played(Check.ended(ALL, 1, false).then(Check.begun("1"))).pixel(-1, 0, 0), false);
        Check.due("before the first one", new BandPress().pixel(-1, 0, 0), false);
    }

    private static void band(String what, BandPress x, int b, int... octets) {
        Check.due("size of band " + b + " with " + what, x.band(0, b), octets.length);
        for (int k = 0; k < octets.length; k++) {
            Check.due("byte " + k + " of band " + b + " with " + what, x.octet(0, b, k), octets[k]);
        }
        Check.due("the byte behind it", x.octet(0, b, octets.length), -1);
    }

    // "if it and the next ones, n altogether, are each like the line above (of the first one: a white one): 192 + n"
    private static void linesAlike() {
        int[][] due = {{200}, {136, 255, 136, 0, 198}, {136, 255, 193, 136, 0, 197}, {136, 255, 194, 136, 0, 196},
            {136, 255, 195, 136, 0, 195}, {136, 255, 196, 136, 0, 194}, {136, 255, 197, 136, 0, 193}, {136, 255, 198, 136, 0},
            {136, 255, 199}};
        for (int b = 0; b < 6; b++) {
            for (int lines = 0; lines <= 8; lines++) {
                BandPress x = Check.fine("64 64S" + box(0, 8 * b, 64, 8 * b + lines) + "FP");
                band(lines + " black lines", x, b, due[lines]);
                if (b > 0) {
                    band("nothing above", x, b - 1, 200);
                }
                if (b < 5) {
                    band("nothing below", x, b + 1, 200);
                }
            }
        }
        // white lines above: 1 to 7 of them
        for (int white = 1; white <= 7; white++) {
            BandPress x = Check.fine("64 64S" + box(0, white, 64, 8) + "FP");
            if (white < 7) {
                band(white + " white lines", x, 0, 192 + white, 136, 255, 192 + 7 - white);
            } else {
                band(white + " white lines", x, 0, 199, 136, 255);
            }
        }
        // a band's first line is not held against the last one of the band above
        BandPress all = Check.fine(ALL + "P");
        for (int b = 0; b < 6; b++) {
            band("a black page", all, b, 136, 255, 199);
        }
        BandPress over = Check.fine("64 64S" + box(0, 7, 64, 9) + "FP");
        band("the last line black", over, 0, 199, 136, 255);
        band("the first line black", over, 1, 136, 255, 136, 0, 198);
        // every second line
        BandPress comb = Check.fine("64 64S4{0a M64a L64a1+L0a1+LF a2+:a}RP");
        band("every second line", comb, 0, 136, 255, 136, 0, 136, 255, 136, 0, 136, 255, 136, 0, 136, 255, 136, 0);
    }

    /** A page whose first line has these bytes. */
    private static String firstLine(int... bytes) {
        StringBuilder text = new StringBuilder("64 64S");
        int start = -1;
        for (int x = 0; x <= 64; x++) {
            boolean black = x < 64 && (bytes[x / 8] >> 7 - x % 8 & 1) != 0;
            if (black && start < 0) {
                start = x;
            } else if (!black && start >= 0) {
                text.append(box(start, 0, x, 1));
                start = -1;
            }
        }
        return text.append("FP").toString();
    }

    private static void packed(int[] bytes, int... octets) {
        BandPress x = Check.fine(firstLine(bytes));
        int[] all = Arrays.copyOf(octets, octets.length + 3);
        all[octets.length] = 136;
        all[octets.length + 1] = 0;
        all[octets.length + 2] = 198;
        band("bytes " + Arrays.toString(bytes), x, 0, all);
    }

    // "a row of n bytes alike, two at least and as many as can be: 128 + n, the byte; else n bytes up to the next such row"
    private static void bytesAlike() {
        packed(new int[] {255, 255, 255, 255, 255, 255, 255, 255}, 136, 255);
        packed(new int[] {255, 255, 255, 255, 255, 255, 255, 0}, 135, 255, 1, 0);
        packed(new int[] {0, 255, 255, 255, 255, 255, 255, 255}, 1, 0, 135, 255);
        packed(new int[] {0, 0, 255, 255, 255, 255, 255, 255}, 130, 0, 134, 255);
        packed(new int[] {1, 2, 3, 4, 5, 6, 7, 8}, 8, 1, 2, 3, 4, 5, 6, 7, 8);
        packed(new int[] {1, 2, 3, 4, 5, 6, 7, 7}, 6, 1, 2, 3, 4, 5, 6, 130, 7);
        packed(new int[] {1, 1, 2, 3, 4, 5, 6, 7}, 130, 1, 6, 2, 3, 4, 5, 6, 7);
        packed(new int[] {1, 2, 2, 3, 4, 5, 6, 7}, 1, 1, 130, 2, 5, 3, 4, 5, 6, 7);
        packed(new int[] {1, 1, 2, 2, 3, 3, 4, 4}, 130, 1, 130, 2, 130, 3, 130, 4);
        packed(new int[] {1, 2, 2, 3, 4, 4, 5, 6}, 1, 1, 130, 2, 1, 3, 130, 4, 2, 5, 6);
        packed(new int[] {1, 2, 3, 3, 3, 4, 5, 6}, 2, 1, 2, 131, 3, 3, 4, 5, 6);
        packed(new int[] {128, 0, 128, 0, 128, 0, 128, 0}, 8, 128, 0, 128, 0, 128, 0, 128, 0);
        packed(new int[] {0, 0, 0, 0, 0, 0, 0, 1}, 135, 0, 1, 1);
        packed(new int[] {0, 0, 0, 0, 0, 0, 1, 1}, 134, 0, 130, 1);
        packed(new int[] {128, 0, 0, 0, 0, 0, 0, 0}, 1, 128, 135, 0);
        packed(new int[] {128, 0, 0, 0, 0, 0, 0, 1}, 1, 128, 134, 0, 1, 1);
    }

    // "How many bytes band b of a page that is kept has; NONE if there is none such"
    private static void bandEdges() {
        Check.Play play = Check.ended("P" + ALL + "P" + ALL, 1, false);
        BandPress x = Check.played(play);
        for (int b = 0; b < 6; b++) {
            Check.due("band " + b + " of a white page", x.band(0, b), 1);
            Check.due("band " + b + " of a black page", x.band(1, b), 3);
        }
        Check.State state = new Check.State("two pages", play);
        int[][] outside = {{0, -1}, {0, 6}, {1, -1}, {1, 6}, {2, 0}, {-1, 0}, {-2, 0}, {8, 0}, {0, Integer.MIN_VALUE},
            {0, Integer.MAX_VALUE}, {Integer.MIN_VALUE, 0}, {Integer.MAX_VALUE, 0}};
        for (int[] at : outside) {
            state.unchangedBy("band(" + at[0] + ", " + at[1] + ")", y -> y.band(at[0], at[1]), -1);
            state.unchangedBy("octet(" + at[0] + ", " + at[1] + ", 0)", y -> y.octet(at[0], at[1], 0), -1);
        }
        state.unchangedBy("band(1, 5)", y -> y.band(1, 5), 3);
        BandPress most = Check.fine("8{P}R");
        Check.due("the last page's band", most.band(7, 5), 1);
        Check.due("no page behind it", most.band(8, 5), -1);
        BandPress running = Check.played(Check.begun("P P").then(y -> y.run(1)));
        Check.due("a page that is kept already", running.band(0, 0), 1);
        Check.due("one that is not yet", running.band(1, 0), -1);
    }

    // "Byte i of it; NONE if there is none such"
    private static void octetEdges() {
        Check.Play play = Check.ended("P" + ALL + "P", 1, false);
        BandPress x = Check.played(play);
        Check.due("the only byte", x.octet(0, 5, 0), 200);
        Check.due("the first of three", x.octet(1, 5, 0), 136);
        Check.due("the last of three", x.octet(1, 5, 2), 199);
        Check.State state = new Check.State("two pages", play);
        int[][] outside = {{0, -1}, {0, 1}, {1, -1}, {1, 3}, {1, 127}, {1, 128}, {0, Integer.MIN_VALUE}, {0, Integer.MAX_VALUE}};
        for (int[] at : outside) {
            state.unchangedBy("octet(" + at[0] + ", 5, " + at[1] + ")", y -> y.octet(at[0], 5, at[1]), -1);
        }
        state.unchangedBy("octet(1, 5, 2)", y -> y.octet(1, 5, 2), 199);
    }
}
