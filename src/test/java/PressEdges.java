import java.util.function.ToLongFunction;

/** The edges of the press: each sentence that names one, on both sides, and refused calls in many states. */
public final class PressEdges {
    public static void main(String[] args) {
        ticksAtATime();
        heatAboveAndBelow();
        heatWithTheCoverOpen();
        heatOfTheDrum();
        states();
        sheetsOfAJob();
        sheetsOfAnError();
        wayOfOneSide();
        wayOfTwoSides();
        onceInATick();
        fewerThanTwoInside();
        turnEmpty();
        trayEmpty();
        firstSheetToMake();
        fourthTick();
        notCountedTicks();
        brokenRows();
        openCoverInARow();
        behindWhatElseGoes();
        endOfAJam();
        takenAway();
        stickEdges();
        takeEdges();
        loadEdges();
        coverEdges();
        sectionEdges();
        outEdges();
        pressEdges();
        refusedInAllStates();
        Check.end();
    }

    private static Check.Play printing(String text, int copies, boolean twoSided, int tray) {
        return Check.ended(text, copies, twoSided).then(x -> {
            if (tray > 0) {
                x.load(tray);
            }
        });
    }

    private static Check.Play ticked(int n) {
        return x -> x.tick(n);
    }

    private static void at(String what, BandPress x, int... sheets) {
        for (int k = 0; k < 4; k++) {
            Check.due("sheet in section " + k + ": " + what, x.section(k, 0), sheets[k]);
        }
    }

    // "IllegalArgumentException: n is not 1 .. 1000"; "n ticks"
    private static void ticksAtATime() {
        BandPress x = new BandPress();
        Check.due("tick(1)", Check.tick(x, 1), 0);
        Check.due("ticks", x.press(5), 1);
        Check.due("tick(1000)", Check.tick(x, 1000), 0);
        Check.due("ticks", x.press(5), 1001);
        Check.State[] states = {
            new Check.State("a new object", y -> { }),
            new Check.State("two inside", printing("PPP", 1, false, 9).then(ticked(9))),
            new Check.State("stuck for three", printing("P", 1, false, 9).then(y -> y.stick(2, true)).then(ticked(12)))};
        for (Check.State state : states) {
            for (int n : new int[] {0, 1001, -1, Integer.MIN_VALUE, Integer.MAX_VALUE}) {
                state.unchangedBy("tick(" + n + ")", y -> Check.tick(y, n), Check.ARGUMENT);
            }
        }
        Check.Play job = printing("PPPPP", 2, true, 20);
        long[] atOnce = Check.look(job.then(ticked(33)));
        long[] oneByOne = Check.look(job.then(y -> {
            for (int k = 0; k < 33; k++) {
                y.tick(1);
            }
        }));
        Check.due("33 ticks at once and one by one", Check.differs(atOnce, oneByOne), -1);
    }

    // "HEAT grows by 10 (to 100 at most), if there is a SHEET that is not out, else gets less by 5"
    private static void heatAboveAndBelow() {
        BandPress none = new BandPress();
        none.tick(1);
        Check.due("heat of a press without a job", none.press(1), 0);
        BandPress x = Check.played(printing("P", 1, false, 0));
        for (int k = 1; k <= 12; k++) {
            x.tick(1);
            Check.due("heat behind tick " + k, x.press(1), Math.min(100, 10 * k));
        }
        x.load(1);
        // the tick in which the last one goes out warms still
        x.tick(3);
        Check.due("not out yet", x.press(3), 0);
        x.tick(1);
        Check.due("out", x.press(3), 1);
        Check.due("heat", x.press(1), 100);
        for (int k = 1; k <= 22; k++) {
            x.tick(1);
            Check.due("heat " + k + " behind it", x.press(1), Math.max(0, 100 - 5 * k));
        }
        BandPress running = Check.played(Check.begun("P P").then(y -> y.run(1)));
        running.tick(3);
        Check.due("a job under way has no sheets yet", running.press(1), 0);
        BandPress last = Check.played(printing("P", 1, false, 1).then(ticked(10)));
        Check.due("just out", last.press(0), 0);
        Check.due("at 100", last.press(1), 100);
        last.tick(1);
        Check.due("95", last.press(1), 95);
        Check.type(last, "P");
        last.start(1, false, 9);
        last.run(9);
        last.tick(1);
        Check.due("95 and 10 are 100 at most", last.press(1), 100);
    }

    // "the COVER is open: HEAT gets less by 5 (at least 0), nothing else"
    private static void heatWithTheCoverOpen() {
        BandPress x = Check.played(printing("P", 1, false, 0).then(ticked(1)).then(y -> y.cover(true)));
        int[] heat = {10, 5, 0, 0, 0};
        for (int k = 0; k < heat.length; k++) {
            Check.due("heat behind " + k + " open ticks", x.press(1), heat[k]);
            x.tick(1);
        }
        BandPress y = Check.played(printing("PPP", 1, false, 9).then(ticked(9)).then(z -> z.cover(true)));
        at("before", y, -1, 1, 0, -1);
        y.tick(1);
        at("nothing goes", y, -1, 1, 0, -1);
        Check.due("no side is printed", y.section(1, 1), 0);
        Check.due("nothing comes", y.press(2), 7);
        Check.due("nothing is out", y.press(3), 0);
        Check.due("it is a tick", y.press(5), 10);
        Check.due("it cools", y.press(1), 85);
        y.cover(false);
        y.tick(1);
        at("shut again", y, 2, -1, 1, -1);
        Check.due("it warms", y.press(1), 95);
        Check.due("one is out", y.press(3), 1);
    }

    // "REGISTER: to DRUM, if that is free and HEAT is at least 80"
    private static void heatOfTheDrum() {
        BandPress x = Check.played(printing("P", 1, false, 1).then(ticked(7)));
        Check.due("70", x.press(1), 70);
        at("at 70", x, 0, -1, -1, -1);
        x.tick(1);
        Check.due("80", x.press(1), 80);
        at("at 80", x, -1, 0, -1, -1);
        BandPress y = Check.played(printing("P", 1, false, 1).then(ticked(7)).then(z -> z.cover(true)).then(ticked(1)));
        y.cover(false);
        Check.due("at 75", Check.tick(y, 1), 1);
        Check.due("75", y.press(1), 75);
        at("at 75", y, 0, -1, -1, -1);
        Check.due("at 85", Check.tick(y, 1), 2);
        at("at 85", y, -1, 0, -1, -1);
        // the others go when it is cold, too
        BandPress cold = Check.played(printing("PP", 1, false, 2).then(ticked(9)).then(z -> z.cover(true)).then(ticked(18)));
        Check.due("0", cold.press(1), 0);
        cold.cover(false);
        Check.due("cold", Check.tick(cold, 1), 1);
        at("cold", cold, -1, -1, 1, -1);
        Check.due("the first one is out", cold.press(3), 1);
    }

    // "5 the COVER is open, else 3 JAMMED, else 0 .., else 4 .., else 1 HEAT below 80, else 2"
    private static void states() {
        BandPress x = new BandPress();
        Check.due("no sheet", x.press(0), 0);
        x.load(5);
        Check.due("no sheet, with a tray", x.press(0), 0);
        x.cover(true);
        Check.due("the cover is open", x.press(0), 5);
        Check.due("the cover is open, by tick", Check.tick(x, 1), 5);
        BandPress y = Check.played(printing("PP", 1, false, 0));
        Check.due("the tray is empty", y.press(0), 4);
        Check.due("the tray is empty, by tick", Check.tick(y, 1), 4);
        y.load(1);
        Check.due("one in the tray", y.press(0), 1);
        Check.due("the tray is empty, but one is inside", Check.tick(y, 1), 1);
        Check.due("none is left", y.press(2), 0);
        Check.due("70", Check.tick(y, 5), 1);
        Check.due("80", Check.tick(y, 1), 2);
        Check.due("on FUSER", Check.tick(y, 1), 2);
        Check.due("nothing inside and the tray empty", Check.tick(y, 1), 4);
        y.load(1);
        Check.due("warm, nothing inside", y.press(0), 2);
        y.stick(0, true);
        Check.due("stuck", Check.tick(y, 4), 2);
        Check.due("jammed", Check.tick(y, 1), 3);
        y.cover(true);
        Check.due("jammed and open", y.press(0), 5);
        Check.due("jammed and open, by tick", Check.tick(y, 12), 5);
        y.cover(false);
        Check.due("jammed before cold", y.press(0), 3);
        y.take(0);
        Check.due("jammed before an empty press", y.press(0), 3);
        y.stick(0, false);
        Check.due("an empty tray, no jam", Check.tick(y, 1), 4);
        y.load(1);
        Check.due("to the end", Check.tick(y, 20), 0);
    }

    // "copy by copy, in order; one-sided a page each; two-sided pages 2 * k, 2 * k + 1 (the last one perhaps ..)"
    private static void sheetsOfAJob() {
        for (int pages = 0; pages <= 8; pages++) {
            for (int copies = 1; copies <= 4; copies++) {
                String text = pages + "{P}R";
                BandPress one = Check.played(printing(text, copies, false, 40));
                Check.due("sheets of " + pages + " pages", one.press(4), pages * copies);
                Check.due("all out", Check.tick(one, 200), 0);
                Check.due("so many", one.press(3), pages * copies);
                Check.due("tray", one.press(2), 40 - pages * copies);
                for (int k = 0; k < pages * copies; k++) {
                    out(one, k, k, k / pages, k % pages, -1);
                }
                int half = (pages + 1) / 2;
                BandPress two = Check.played(printing(text, copies, true, 40));
                Check.due("two-sided sheets of " + pages + " pages", two.press(4), half * copies);
                Check.due("all out", Check.tick(two, 400), 0);
                Check.due("tray", two.press(2), 40 - half * copies);
                for (int k = 0; k < half * copies; k++) {
                    int first = k % half * 2;
                    out(two, k, k, k / half, first, first + 1 < pages ? first + 1 : -1);
                }
            }
        }
        BandPress running = Check.played(Check.begun("P 1"));
        running.run(1);
        Check.due("no sheet till it has ended", running.press(4), 0);
        running.run(1);
        Check.due("one then", running.press(4), 1);
    }

    private static void out(BandPress x, int k, int... due) {
        for (int what = 0; what < 4; what++) {
            Check.due("out(" + k + ", " + what + ")", x.out(k, what), due[what]);
        }
    }

    // "SHEETS of a job that has ended (also by an error, with the pages there are)"
    private static void sheetsOfAnError() {
        BandPress two = Check.played(printing("PP1 0/P", 2, false, 9));
        Check.due("an error", two.job(1), 4);
        Check.due("sheets of two pages", two.press(4), 4);
        Check.due("are made", Check.tick(two, 50), 0);
        Check.due("all", two.press(3), 4);
        BandPress none = Check.played(printing("1 0/P", 2, false, 9));
        Check.due("no page before the error", none.press(4), 0);
        Check.due("nothing to make", none.press(0), 0);
        BandPress ninth = Check.played(printing("9{P}R", 4, false, 40));
        Check.due("the ninth page's error", ninth.job(1), 9);
        Check.due("sheets of eight pages", ninth.press(4), 32);
        Check.due("are made", Check.tick(ninth, 100), 0);
        Check.due("the last one", ninth.out(31, 0), 31);
        Check.due("none behind it", ninth.out(32, 0), -1);
        BandPress limit = Check.played(Check.begun("PPP", 1, true, 2).then(Check::runOut));
        Check.due("sheets at the limit", limit.press(4), 1);
    }

    // "FUSER: its sheet goes out if all its sides are printed"; "DRUM: its side is printed, and it goes to FUSER"
    private static void wayOfOneSide() {
        BandPress x = Check.played(printing("P", 1, false, 1).then(ticked(8)));
        at("tick 8", x, -1, 0, -1, -1);
        Check.due("no side yet", x.section(1, 1), 0);
        x.tick(1);
        at("tick 9", x, -1, -1, 0, -1);
        Check.due("one side", x.section(2, 1), 1);
        Check.due("not out", x.press(3), 0);
        x.tick(1);
        at("tick 10", x, -1, -1, -1, -1);
        Check.due("out", x.press(3), 1);
        // FUSER is not free: no side is printed, however long it waits
        BandPress wait = Check.played(printing("PP", 1, false, 2).then(ticked(9)).then(y -> y.stick(2, true)));
        at("one behind the other", wait, -1, 1, 0, -1);
        wait.tick(3);
        at("waiting", wait, -1, 1, 0, -1);
        Check.due("no side while it waits", wait.section(1, 1), 0);
        wait.stick(2, false);
        wait.tick(1);
        at("FUSER goes first", wait, -1, -1, 1, -1);
        Check.due("one side alone", wait.section(2, 1), 1);
    }

    // "else to TURN, if that is free. TURN: to REGISTER, if that is free."; a white back "is printed, too"
    private static void wayOfTwoSides() {
        int[][] due = {{-1, 0, -1, -1}, {-1, -1, 0, -1}, {-1, -1, -1, 0}, {0, -1, -1, -1}, {-1, 0, -1, -1}, {-1, -1, 0, -1},
            {-1, -1, -1, -1}};
        for (String pages : new String[] {"P", "PP"}) {
            BandPress x = Check.played(printing(pages, 1, true, 1).then(ticked(7)));
            int[] section = {1, 2, 3, 0, 1, 2};
            int[] sides = {0, 1, 1, 1, 1, 2};
            for (int k = 0; k < due.length; k++) {
                x.tick(1);
                at("tick " + (8 + k), x, due[k]);
                if (k < section.length) {
                    Check.due("sides at tick " + (8 + k), x.section(section[k], 1), sides[k]);
                }
            }
            Check.due("out", x.press(3), 1);
            Check.due("its back", x.out(0, 3), pages.length() > 1 ? 1 : -1);
        }
        // TURN is not free at FUSER's turn, though it gets free in that tick
        BandPress two = Check.played(printing("PPPP", 1, true, 2).then(ticked(10)));
        at("both have a side", two, -1, -1, 1, 0);
        two.tick(1);
        at("FUSER waits", two, 0, -1, 1, -1);
        two.tick(1);
        at("FUSER goes", two, -1, 0, -1, 1);
        // REGISTER is not free: TURN waits
        BandPress full = Check.played(printing("PPPP", 1, true, 2).then(ticked(8)).then(y -> y.stick(0, true)).then(ticked(2)));
        at("one on REGISTER, one on TURN", full, 1, -1, -1, 0);
        full.stick(0, false);
        full.tick(1);
        at("REGISTER is not free at its turn", full, -1, 1, -1, 0);
        full.tick(1);
        at("free", full, 0, -1, 1, -1);
    }

    // "a sheet goes once in a tick: one that came to a section in this tick stays there"
    private static void onceInATick() {
        BandPress x = Check.played(printing("PP", 1, true, 1).then(ticked(10)));
        at("on TURN", x, -1, -1, -1, 0);
        x.tick(1);
        at("on REGISTER, though DRUM is free and it is warm", x, 0, -1, -1, -1);
        BandPress fed = Check.played(printing("PP", 1, false, 0).then(ticked(10)));
        fed.load(1);
        fed.tick(1);
        at("from the tray to REGISTER alone", fed, 0, -1, -1, -1);
        fed.tick(1);
        at("then to DRUM", fed, -1, 0, -1, -1);
        fed.tick(1);
        at("then to FUSER", fed, -1, -1, 0, -1);
    }

    // "fewer than two are inside"
    private static void fewerThanTwoInside() {
        BandPress x = Check.played(printing("PPP", 1, false, 9).then(ticked(8)));
        at("one inside, so one comes", x, 1, 0, -1, -1);
        x.tick(1);
        at("two inside, so none comes", x, -1, 1, 0, -1);
        Check.due("tray", x.press(2), 7);
        x.tick(1);
        at("one goes out, so one comes", x, 2, -1, 1, -1);
        Check.due("tray", x.press(2), 6);
    }

    // "If REGISTER is free, TURN empty"
    private static void turnEmpty() {
        BandPress x = Check.played(printing("PPPP", 1, true, 1).then(ticked(10)));
        at("one on TURN", x, -1, -1, -1, 0);
        x.load(5);
        x.stick(3, true);
        x.tick(1);
        at("none comes while it is there", x, -1, -1, -1, 0);
        Check.due("tray", x.press(2), 5);
        x.stick(3, false);
        x.tick(1);
        at("none comes as REGISTER is not free", x, 0, -1, -1, -1);
        x.tick(1);
        at("one comes then", x, 1, 0, -1, -1);
        Check.due("tray", x.press(2), 4);
        // REGISTER is not free
        BandPress full = Check.played(printing("PPPP", 1, false, 9).then(ticked(3)));
        at("one on REGISTER", full, 0, -1, -1, -1);
        Check.due("none comes to it", full.press(2), 8);
        // a section that STICKS can be come to
        BandPress sticks = Check.played(printing("P", 1, false, 1).then(y -> y.stick(0, true)).then(ticked(1)));
        at("it comes to a section that sticks", sticks, 0, -1, -1, -1);
    }

    // "the TRAY has one"
    private static void trayEmpty() {
        BandPress x = Check.played(printing("PP", 1, false, 0).then(ticked(3)));
        at("none in the tray", x, -1, -1, -1, -1);
        x.load(1);
        x.tick(1);
        at("one in the tray", x, 0, -1, -1, -1);
        Check.due("none is left", x.press(2), 0);
        x.tick(20);
        Check.due("one is out", x.press(3), 1);
        at("no other one came", x, -1, -1, -1, -1);
        Check.due("the tray stays at 0", x.press(2), 0);
    }

    // "the first SHEET to make that is neither out nor inside"
    private static void firstSheetToMake() {
        BandPress x = Check.played(printing("PPPP", 1, false, 9).then(ticked(9)).then(y -> y.cover(true)));
        at("0 and 1 inside", x, -1, 1, 0, -1);
        x.take(2);
        x.cover(false);
        x.tick(1);
        at("0 again, as 1 is inside", x, 0, -1, 1, -1);
        x.tick(1);
        at("then 2", x, 2, 0, -1, -1);
        x.tick(40);
        int[] order = {1, 0, 2, 3};
        for (int k = 0; k < 4; k++) {
            Check.due("out in the order they went", x.out(k, 0), order[k]);
        }
        Check.due("a sheet more was used", x.press(2), 4);
        BandPress last = Check.played(printing("P", 1, false, 9).then(ticked(8)));
        Check.due("no sheet is left to make", last.press(2), 8);
        at("none comes", last, -1, 0, -1, -1);
    }

    // "The fourth tick in a row in which it STICKS and would have gone otherwise .. it is JAMMED"
    private static void fourthTick() {
        int[] first = {8, 9, 10, 11};
        for (int k = 0; k < 4; k++) {
            int section = k;
            Check.Play play = printing("PP", 1, k == 3, 1).then(y -> y.stick(section, true)).then(ticked(first[k] - 1));
            BandPress x = Check.played(play);
            Check.due("the sheet is in section " + k, x.section(k, 0), 0);
            int state = k == 0 ? 1 : 2;
            Check.due("before the first such tick", x.press(0), state);
            for (int tick = 1; tick <= 3; tick++) {
                Check.due("tick " + tick + " in section " + k, Check.tick(x, 1), 2);
                Check.due("it stays", x.section(k, 0), 0);
                Check.due("not jammed", x.press(6), 0);
            }
            Check.due("the fourth one in section " + k, Check.tick(x, 1), 3);
            Check.due("jammed once", x.press(6), 1);
            Check.due("it stays jammed", Check.tick(x, 9), 3);
            Check.due("and is that once", x.press(6), 1);
            Check.due("the sheet stays", x.section(k, 0), 0);
            BandPress three = Check.played(play.then(ticked(3)));
            three.stick(k, false);
            Check.due("not sticking in the fourth", Check.tick(three, 1) == 3, false);
            Check.due("it goes", three.section(k, 0), -1);
        }
    }

    // "would have gone otherwise (by the sections as they are at its turn; ..)"
    private static void notCountedTicks() {
        // REGISTER: too cold for seven ticks
        BandPress cold = Check.played(printing("P", 1, false, 1).then(y -> y.stick(0, true)));
        Check.due("cold", Check.tick(cold, 7), 1);
        Check.due("three warm ones", Check.tick(cold, 3), 2);
        Check.due("the fourth", Check.tick(cold, 1), 3);
        // DRUM: the tick in which it came, and those in which FUSER is not free at its turn
        BandPress drum = Check.played(printing("PP", 1, false, 2).then(ticked(9)));
        at("one behind the other", drum, -1, 1, 0, -1);
        drum.stick(1, true);
        drum.stick(2, true);
        Check.due("FUSER is not free", Check.tick(drum, 3), 2);
        drum.stick(2, false);
        Check.due("free at its turn from here on", Check.tick(drum, 3), 2);
        Check.due("the fourth", Check.tick(drum, 1), 3);
        // FUSER: TURN is not free at its turn
        BandPress fuser = Check.played(printing("PPPP", 1, true, 2).then(ticked(10)));
        at("both have a side", fuser, -1, -1, 1, 0);
        fuser.stick(2, true);
        Check.due("TURN is not free, then three", Check.tick(fuser, 4), 2);
        Check.due("the fourth", Check.tick(fuser, 1), 3);
        // TURN: REGISTER is not free at its turn
        BandPress turn = Check.played(printing("PPPP", 1, true, 2).then(ticked(8)).then(y -> y.stick(0, true)).then(ticked(2)));
        at("one on REGISTER, one on TURN", turn, 1, -1, -1, 0);
        turn.stick(3, true);
        turn.tick(1);
        turn.stick(0, false);
        Check.due("REGISTER is not free, then three", Check.tick(turn, 4), 2);
        Check.due("the fourth", Check.tick(turn, 1), 3);
        // a section without a sheet
        BandPress none = Check.played(printing("P", 1, false, 0).then(y -> {
            for (int k = 0; k < 4; k++) {
                y.stick(k, true);
            }
        }));
        Check.due("nothing inside", Check.tick(none, 50), 4);
        Check.due("is no jam", none.press(6), 0);
    }

    // ".. in a row .."
    private static void brokenRows() {
        BandPress x = Check.played(printing("PPP", 1, false, 9).then(y -> y.stick(2, true)).then(ticked(12)));
        Check.due("0 on FUSER for three ticks", x.section(2, 0), 0);
        x.stick(2, false);
        x.tick(1);
        Check.due("1 comes to FUSER", x.section(2, 0), 1);
        x.stick(2, true);
        Check.due("three more are no jam", Check.tick(x, 3), 2);
        Check.due("the fourth is", Check.tick(x, 1), 3);
        // sticking no more and again between two ticks breaks nothing: it sticks in each of them
        BandPress between = Check.played(printing("P", 1, false, 9).then(y -> y.stick(2, true)).then(ticked(12)));
        between.stick(2, false);
        between.stick(2, true);
        Check.due("the fourth in a row", Check.tick(between, 1), 3);
        // a tick without a sheet there: it was taken away, and is made again
        BandPress drum = Check.played(printing("PPP", 1, false, 1).then(y -> y.stick(1, true)).then(ticked(11)));
        Check.due("0 on DRUM for three ticks", drum.section(1, 0), 0);
        Check.due("no jam yet", drum.press(6), 0);
        drum.cover(true);
        drum.take(1);
        drum.cover(false);
        drum.load(1);
        Check.due("none on DRUM", Check.tick(drum, 1), 2);
        at("made again", drum, 0, -1, -1, -1);
        Check.due("it comes, and three", Check.tick(drum, 4), 2);
        Check.due("the fourth", Check.tick(drum, 1), 3);
    }

    // "not with the COVER open, nor JAMMED"
    private static void openCoverInARow() {
        Check.Play three = printing("P", 1, false, 9).then(y -> y.stick(2, true)).then(ticked(12)).then(y -> y.cover(true));
        BandPress x = Check.played(three);
        Check.due("open ticks are none of them", Check.tick(x, 5), 5);
        Check.due("no jam", x.press(6), 0);
        x.cover(false);
        Check.due("the row begins anew", Check.tick(x, 3), 2);
        Check.due("the fourth", Check.tick(x, 1), 3);
        BandPress y = Check.played(three);
        y.cover(false);
        Check.due("opened and shut between two ticks", Check.tick(y, 1), 3);
        BandPress jam = Check.played(printing("PP", 1, false, 9).then(z -> z.stick(2, true)).then(ticked(13)));
        Check.due("jammed", jam.press(0), 3);
        Check.due("a jam is not jammed again", Check.tick(jam, 20), 3);
        Check.due("once", jam.press(6), 1);
    }

    // "it is JAMMED (behind what else goes in that tick)"
    private static void behindWhatElseGoes() {
        BandPress fed = Check.played(printing("PP", 1, false, 1).then(y -> y.stick(2, true)).then(ticked(12)));
        fed.load(1);
        Check.due("jammed", Check.tick(fed, 1), 3);
        at("one came from the tray in that tick", fed, 1, -1, 0, -1);
        Check.due("jammed", Check.tick(fed, 1), 3);
        at("nothing goes any more", fed, 1, -1, 0, -1);
        BandPress gone = Check.played(printing("PP", 1, false, 1).then(y -> y.stick(2, true)).then(ticked(11)));
        gone.load(1);
        gone.tick(1);
        Check.due("jammed", Check.tick(gone, 1), 3);
        at("one went to DRUM in that tick", gone, -1, 1, 0, -1);
        // two sections in the same tick are one jam
        BandPress both = Check.played(printing("PP", 1, false, 1).then(y -> y.stick(2, true)).then(ticked(8)));
        both.stick(0, true);
        both.load(1);
        both.tick(1);
        at("0 on FUSER, 1 on REGISTER", both, 1, -1, 0, -1);
        Check.due("three", Check.tick(both, 3), 2);
        Check.due("the fourth", Check.tick(both, 1), 3);
        Check.due("one jam", both.press(6), 1);
    }

    // "if it is JAMMED, nothing is inside, and no section STICKS, it is so no more"
    private static void endOfAJam() {
        Check.Play jam = printing("PPP", 1, false, 9).then(y -> y.stick(2, true)).then(ticked(13));
        BandPress x = Check.played(jam);
        at("jammed", x, -1, 1, 0, -1);
        x.stick(2, false);
        Check.due("two inside", Check.tick(x, 1), 3);
        Check.due("taken", x.take(2), true);
        Check.due("one inside", Check.tick(x, 1), 3);
        Check.due("taken", x.take(1), true);
        for (int k = 0; k < 4; k++) {
            x.stick(k, true);
            Check.due("section " + k + " sticks", Check.tick(x, 1), 3);
            x.stick(k, false);
        }
        x.cover(true);
        Check.due("the cover is open", Check.tick(x, 1), 5);
        x.cover(false);
        Check.due("no tick yet", x.press(0), 3);
        int tray = x.press(2);
        Check.due("no more", Check.tick(x, 1), 2);
        at("in that very tick it goes on", x, 0, -1, -1, -1);
        Check.due("from the tray", x.press(2), tray - 1);
        Check.due("was jammed once", x.press(6), 1);
        x.stick(0, true);
        Check.due("three ticks", Check.tick(x, 3), 2);
        Check.due("jammed anew", Check.tick(x, 1), 3);
        Check.due("twice", x.press(6), 2);
        x.stick(0, false);
        x.take(0);
        Check.due("all are made", Check.tick(x, 30), 0);
        Check.due("three out", x.press(3), 3);
    }

    // "What was taken away is to be made again, with all its sides."
    private static void takenAway() {
        int[] ticks = {1, 8, 9, 10, 11, 12, 13};
        int[] section = {0, 1, 2, 3, 0, 1, 2};
        for (int k = 0; k < ticks.length; k++) {
            int where = section[k];
            BandPress x = Check.played(printing("PP", 1, true, 9).then(ticked(ticks[k])).then(y -> y.cover(true)));
            Check.due("it is in section " + where, x.section(where, 0), 0);
            Check.due("taken", x.take(where), true);
            Check.due("no sheet there", x.section(where, 0), -1);
            Check.due("no sides there", x.section(where, 1), 0);
            Check.due("none is out", x.press(3), 0);
            Check.due("the tray stays", x.press(2), 8);
            x.cover(false);
            x.tick(1);
            at("it comes again", x, 0, -1, -1, -1);
            Check.due("without a side", x.section(0, 1), 0);
            Check.due("from the tray", x.press(2), 7);
            Check.due("both sides are printed", Check.tick(x, 15), 0);
            Check.due("it is out once", x.press(3), 1);
            Check.due("and needs no third one", x.press(2), 7);
        }
    }

    // "A section STICKS, or no more: true; false if there is none such"
    private static void stickEdges() {
        BandPress x = new BandPress();
        for (int k = 0; k < 4; k++) {
            Check.due("stick(" + k + ", true)", x.stick(k, true), true);
            for (int other = 0; other < 4; other++) {
                Check.due("section " + other + " sticks", x.section(other, 2), other == k ? 1 : 0);
            }
            Check.due("again", x.stick(k, true), true);
            Check.due("it sticks", x.section(k, 2), 1);
            Check.due("stick(" + k + ", false)", x.stick(k, false), true);
            Check.due("it sticks no more", x.section(k, 2), 0);
            Check.due("again", x.stick(k, false), true);
        }
        Check.State state = new Check.State("two stick", printing("PP", 1, false, 2).then(ticked(9))
            .then(y -> y.stick(0, true)).then(y -> y.stick(3, true)));
        for (int k : new int[] {-1, 4, Integer.MIN_VALUE, Integer.MAX_VALUE}) {
            state.unchangedBy("stick(" + k + ", true)", y -> y.stick(k, true) ? 1 : 0, 0);
            state.unchangedBy("stick(" + k + ", false)", y -> y.stick(k, false) ? 1 : 0, 0);
        }
    }

    // "true; false if there is none, or neither the COVER is open nor it is JAMMED"
    private static void takeEdges() {
        Check.Play two = printing("PPP", 1, false, 9).then(ticked(9));
        Check.State shut = new Check.State("shut, not jammed", two);
        Check.State open = new Check.State("open", two.then(x -> x.cover(true)));
        Check.State jam = new Check.State("jammed", two.then(x -> x.stick(2, true)).then(ticked(4)));
        for (int k : new int[] {0, 1, 2, 3, -1, 4, Integer.MIN_VALUE, Integer.MAX_VALUE}) {
            shut.unchangedBy("take(" + k + ")", x -> x.take(k) ? 1 : 0, 0);
            if (k != 1 && k != 2) {
                open.unchangedBy("take(" + k + ")", x -> x.take(k) ? 1 : 0, 0);
                jam.unchangedBy("take(" + k + ")", x -> x.take(k) ? 1 : 0, 0);
            }
        }
        for (int k = 1; k <= 2; k++) {
            BandPress x = Check.played(open.play);
            Check.due("open: take(" + k + ")", x.take(k), true);
            Check.due("it is there no more", x.take(k), false);
            Check.due("the other one is", x.take(3 - k), true);
            BandPress y = Check.played(jam.play);
            Check.due("jammed", y.press(0), 3);
            Check.due("jammed: take(" + k + ")", y.take(k), true);
            Check.due("it is there no more", y.take(k), false);
            BandPress z = Check.played(open.play.then(w -> w.cover(false)));
            Check.due("shut again: take(" + k + ")", z.take(k), false);
        }
        Check.due("a new object", new BandPress().take(0), false);
    }

    // "n (1 .. 200) sheets more in the TRAY .. NONE for another n, or if it would have more than 500"
    private static void loadEdges() {
        BandPress x = new BandPress();
        Check.due("load(1)", x.load(1), 1);
        Check.due("load(200)", x.load(200), 201);
        Check.due("load(199)", x.load(199), 400);
        Check.due("load(101) to 501", x.load(101), -1);
        Check.due("load(100) to 500", x.load(100), 500);
        Check.due("load(1) to 501", x.load(1), -1);
        Check.due("500", x.press(2), 500);
        Check.State some = new Check.State("400", y -> {
            y.load(200);
            y.load(200);
        });
        for (int n : new int[] {0, 101, 200, 201, -1, Integer.MIN_VALUE, Integer.MAX_VALUE}) {
            some.unchangedBy("load(" + n + ")", y -> y.load(n), -1);
        }
        BandPress used = Check.played(printing("P", 1, false, 200).then(y -> y.load(200)).then(y -> y.load(100)));
        Check.due("full", used.load(1), -1);
        used.tick(1);
        Check.due("one has come from it", used.press(2), 499);
        Check.due("two more", used.load(2), -1);
        Check.due("one more", used.load(1), 500);
    }

    // "The COVER is opened or shut: true if it was otherwise."
    private static void coverEdges() {
        BandPress x = new BandPress();
        Check.due("shut it, it is shut", x.cover(false), false);
        Check.due("open it", x.cover(true), true);
        Check.due("open it, it is open", x.cover(true), false);
        Check.due("open", x.press(0), 5);
        Check.due("shut it", x.cover(false), true);
        Check.due("shut", x.press(0), 0);
        Check.State shut = new Check.State("stuck for three", printing("P", 1, false, 9).then(y -> y.stick(2, true)).then(ticked(12)));
        shut.unchangedBy("cover(false)", y -> y.cover(false) ? 1 : 0, 0);
        Check.State open = new Check.State("open", shut.play.then(y -> y.cover(true)));
        open.unchangedBy("cover(true)", y -> y.cover(true) ? 1 : 0, 0);
    }

    // "NONE if there is none such (what 0: also without a sheet), or for another what"; "(0 without one)"
    private static void sectionEdges() {
        Check.Play play = printing("PPPP", 1, true, 9).then(ticked(10)).then(x -> x.stick(2, true));
        BandPress x = Check.played(play);
        int[][] due = {{-1, 0, 0}, {-1, 0, 0}, {1, 1, 1}, {0, 1, 0}};
        for (int k = 0; k < 4; k++) {
            for (int what = 0; what < 3; what++) {
                Check.due("section(" + k + ", " + what + ")", x.section(k, what), due[k][what]);
            }
        }
        Check.State state = new Check.State("two inside", play);
        for (int k : new int[] {-1, 4, Integer.MIN_VALUE, Integer.MAX_VALUE}) {
            for (int what = 0; what < 3; what++) {
                int w = what;
                state.unchangedBy("section(" + k + ", " + what + ")", y -> y.section(k, w), -1);
            }
        }
        for (int what : new int[] {-1, 3, Integer.MIN_VALUE, Integer.MAX_VALUE}) {
            state.unchangedBy("section(2, " + what + ")", y -> y.section(2, what), -1);
            state.unchangedBy("section(0, " + what + ")", y -> y.section(0, what), -1);
        }
        state.unchangedBy("section(3, 1)", y -> y.section(3, 1), 1);
    }

    // "NONE if there is none such, or for another what"; "(NONE if it is white, or of a one-sided job)"
    private static void outEdges() {
        Check.Play play = printing("PPP", 1, true, 9).then(ticked(14));
        BandPress x = Check.played(play);
        Check.due("one is out", x.press(3), 1);
        out(x, 0, 0, 0, 0, 1);
        out(x, 1, -1, -1, -1, -1);
        Check.State state = new Check.State("one is out", play);
        for (int k : new int[] {-1, 1, 2, 32, Integer.MIN_VALUE, Integer.MAX_VALUE}) {
            for (int what = 0; what < 4; what++) {
                int w = what;
                state.unchangedBy("out(" + k + ", " + what + ")", y -> y.out(k, w), -1);
            }
        }
        for (int what : new int[] {-1, 4, Integer.MIN_VALUE, Integer.MAX_VALUE}) {
            state.unchangedBy("out(0, " + what + ")", y -> y.out(0, what), -1);
        }
        state.unchangedBy("out(0, 3)", y -> y.out(0, 3), 1);
        x.tick(20);
        out(x, 1, 1, 0, 2, -1);
        BandPress one = Check.played(printing("PP", 1, false, 9).then(ticked(30)));
        out(one, 0, 0, 0, 0, -1);
        out(one, 1, 1, 0, 1, -1);
    }

    // "NONE for another what"; what each what tells
    private static void pressEdges() {
        Check.Play play = printing("PPP", 1, false, 9).then(x -> x.stick(0, true)).then(ticked(11)).then(x -> {
            x.stick(0, false);
            x.take(0);
        }).then(ticked(5));
        BandPress x = Check.played(play);
        int[] due = {2, 100, 5, 2, 3, 16, 1};
        for (int what = 0; what < due.length; what++) {
            Check.due("press(" + what + ")", x.press(what), due[what]);
        }
        Check.State state = new Check.State("one jam, two out", play);
        for (int what : new int[] {-1, 7, 8, Integer.MIN_VALUE, Integer.MAX_VALUE}) {
            state.unchangedBy("press(" + what + ")", y -> y.press(what), -1);
        }
        for (int what = 0; what < due.length; what++) {
            int w = what;
            state.unchangedBy("press(" + what + ")", y -> y.press(w), due[what]);
        }
    }

    private static Check.State[] manyStates() {
        Check.Play tape = Check.typed("7");
        return new Check.State[] {
            new Check.State("new", x -> { }),
            new Check.State("a tape", Check.typed("5:a 1 2")),
            new Check.State("half done", Check.begun("9G 4 4M 3{P U 5:a 6}R").then(x -> x.run(9)).then(tape)),
            new Check.State("ended", Check.ended("5 6{}4G PP 0 0M40 0L40 40LF", 2, true).then(tape)),
            new Check.State("failed", Check.ended("5:a 1 1M2 2L U V V", 2, true).then(tape)),
            new Check.State("two inside", printing("PPP", 1, false, 9).then(ticked(9)).then(tape)),
            new Check.State("on TURN", printing("PPP", 1, true, 9).then(ticked(10)).then(tape)),
            new Check.State("stuck for three", printing("P", 1, false, 9).then(x -> x.stick(2, true)).then(ticked(12))),
            new Check.State("jammed", printing("PP", 1, false, 9).then(x -> x.stick(2, true)).then(ticked(13)).then(tape)),
            new Check.State("open", printing("PPP", 1, true, 9).then(ticked(12)).then(x -> x.cover(true)).then(tape)),
            new Check.State("all out", printing("PP", 1, false, 9).then(ticked(30)).then(tape))};
    }

    private static void refused(Check.State[] states, String call, ToLongFunction<BandPress> asks, long want) {
        for (Check.State state : states) {
            state.unchangedBy(call, asks, want);
        }
    }

    /** What is refused whatever the state is, and then changes nothing. */
    private static void refusedInAllStates() {
        Check.State[] states = manyStates();
        refused(states, "type(49, 0)", x -> x.type(49L, 0) ? 1 : 0, 0);
        refused(states, "type(49, 9)", x -> x.type(49L, 9) ? 1 : 0, 0);
        refused(states, "type(31, 1)", x -> x.type(31L, 1) ? 1 : 0, 0);
        refused(states, "type(127, 1)", x -> x.type(127L, 1) ? 1 : 0, 0);
        refused(states, "start(0, false, 9)", x -> x.start(0, false, 9), -1);
        refused(states, "start(5, false, 9)", x -> x.start(5, false, 9), -1);
        refused(states, "start(1, true, 0)", x -> x.start(1, true, 0), -1);
        refused(states, "start(1, true, 20001)", x -> x.start(1, true, 20001), -1);
        refused(states, "value(32)", x -> Check.value(x, 32), Check.ELEMENT);
        refused(states, "value(-1)", x -> Check.value(x, -1), Check.ELEMENT);
        refused(states, "tick(0)", x -> Check.tick(x, 0), Check.ARGUMENT);
        refused(states, "tick(1001)", x -> Check.tick(x, 1001), Check.ARGUMENT);
        refused(states, "stick(-1, true)", x -> x.stick(-1, true) ? 1 : 0, 0);
        refused(states, "stick(4, true)", x -> x.stick(4, true) ? 1 : 0, 0);
        refused(states, "take(-1)", x -> x.take(-1) ? 1 : 0, 0);
        refused(states, "take(4)", x -> x.take(4) ? 1 : 0, 0);
        refused(states, "load(0)", x -> x.load(0), -1);
        refused(states, "load(201)", x -> x.load(201), -1);
        refused(states, "job(9)", x -> x.job(9), -1);
        refused(states, "variable(26)", x -> x.variable(26), 0);
        refused(states, "pixel(8, 0, 0)", x -> x.pixel(8, 0, 0) ? 1 : 0, 0);
        refused(states, "pixel(-1, 64, 0)", x -> x.pixel(-1, 64, 0) ? 1 : 0, 0);
        refused(states, "band(-1, 0)", x -> x.band(-1, 0), -1);
        refused(states, "octet(0, 0, 128)", x -> x.octet(0, 0, 128), -1);
        refused(states, "section(4, 0)", x -> x.section(4, 0), -1);
        refused(states, "section(0, 3)", x -> x.section(0, 3), -1);
        refused(states, "out(32, 0)", x -> x.out(32, 0), -1);
        refused(states, "press(7)", x -> x.press(7), -1);
        for (Check.State state : states) {
            boolean underWay = Check.played(state.play).job(0) == 1;
            state.unchangedBy("run(0)", x -> Check.run(x, 0), underWay ? Check.ARGUMENT : Check.STATE);
            state.unchangedBy("run(5001)", x -> Check.run(x, 5001), underWay ? Check.ARGUMENT : Check.STATE);
        }
    }
}
