/** Promises 1 and 6 to 55, by answers that were worked out by hand. */
public final class PromisesTest {
    /** Behind one day a has fallen, with its canon; none is left over. */
    private static final String SHORT = "close wide 2 deep 2 calm 0;face a bat holds 1 wears 9 at 0;"
        + "face b lion holds 9 wears 1 at 3;canon x a vexed 1 every 1;canon y b vexed 2 every 1";
    private static final String UNSURE = "close wide 2 deep 2 calm 0;face a bat holds 10 wears 0 at 0;"
        + "face b bat holds 12 wears 0 at 1;face e bat holds 6 wears 0 at 2;canon x a vexed 5 every 1;"
        + "canon y b vexed 4 every 1;canon z e vexed 2 every 1;unsure z 3;unsure x 6;unsure y 5;"
        + "dropped a day 2;dropped b day 3;dropped e day 2";
    private static final String PARTED = "close wide 3 deep 3 calm 0;wall 7;wall 4;wall 1;face f bat holds 9 wears 0 at 1;";

    public static void main(String[] args) {
        newObject();
        now();
        wetCells();
        daysToCome();
        kinds();
        rows();
        lastOfSixty();
        facesToCanons();
        matches();
        tooFew();
        ways();
        gates();
        unsure();
        bread();
        chances();
        draws();
        days();
        given();
        mended();
        vexed();
        undone();
        imaged();
        left();
        orderOfTroubles();
        Check.end();
    }

    private static void newObject() {
        GargoyleClose x = new GargoyleClose();
        for (int what = 0; what <= 12; what++) Check.due("size " + what + " of none", x.size(what), 0);
        Check.due("size 13", x.size(13), -1);
        Check.due("size -1", x.size(-1), -1);
        Check.due("trouble of none", x.trouble(), 0);
        Check.refused(x, "could of none", x.could(), 1);
        Check.refused(x, "surely of none", x.surely(), 1);
        Check.refused(x, "askLeaves of none", x.askLeaves(), 1);
        Check.refused(x, "rest of none", x.rest(0), 1);
        Check.refused(x, "rests of none", x.rests(10), 1);
        Check.refused(x, "sulks of none", x.sulks(10, true, true, true), -100, 1);
        Check.refused(x, "match of none", x.match(0), 1);
        Check.refused(x, "wet of none", x.wet(0), 1);
        Check.refused(x, "firstWet of none", x.firstWet(-1, 0), 1);
        Check.refused(x, "gate of none", x.gate(), 1);
        Check.refused(x, "fitAt of none", x.fitAt(0), 1);
        Check.refused(x, "image of none", x.image(), 1);
        Check.refused(x, "back of none", x.back(0), 1);
        Check.refused(x, "undo of none", x.undo(), 6);
        Check.due("led of none throws", Check.ledThrows(x, 0), true);
        Check.due("trouble stays behind led", x.trouble(), 6);
        x.size(77);
        Check.due("trouble stays behind size", x.trouble(), 6);
    }

    private static void now() {
        GargoyleClose x = Check.made(Check.PAGE);
        x.day();
        x.day();
        x.day();
        int[][] faces = {{0, 7, 0, 0, 1, 0, 1}, {1, 6, 3, 0, 1, 1, 3}, {2, 0, 0, 1, 1, 2, 5}, {0, 50, 0, 0, 0, -2, 8}};
        for (int f = 0; f < 4; f++) {
            for (int what = 0; what < 7; what++) Check.due("face " + f + ", " + what, x.face(f, what), faces[f][what]);
        }
        Check.refused(x, "face(-1, 0)", x.face(-1, 0), 1);
        Check.refused(x, "face(0, -1)", x.face(0, -1), 1);
        int[][] canons = {{0, 4, 1}, {1, 9, 2}, {2, 3, 1}};
        for (int c = 0; c < 3; c++) {
            for (int what = 0; what < 3; what++) Check.due("canon " + c + ", " + what, x.canon(c, what), canons[c][what]);
        }
        Check.refused(x, "canon(0, 3)", x.canon(0, 3), 1);
        Check.refused(x, "canon(-1, 0)", x.canon(-1, 0), 1);
        Check.due("burden", x.burden(), 3);
        Check.due("no trouble", x.trouble(), 0);
    }

    private static void wetCells() {
        GargoyleClose x = Check.made(Check.PAGE);
        Check.due("wet ahead of any day", x.cell(3, 2), 0);
        x.day();
        x.day();
        Check.due("wet on the latest day", x.cell(3, 2), 1);
        x.day();
        Check.due("wet no more", x.cell(3, 2), 0);
        Check.due("wet below ann", x.cell(1, 2), 1);
        Check.due("wet below cob", x.cell(5, 2), 1);
        Check.due("the face over it", x.cell(8, 1), 3);
        Check.due("no wall", x.cell(8, 0), 0);
        int[] near = {2 | 8, 1 | 4, 2 | 32, 1 | 64, 0, 4 | 256, 8 | 128, 64 | 256, 128 | 32};
        for (int k = 0; k < 9; k++) Check.due("a step from " + k, x.cell(k, 3), near[k]);
        Check.refused(x, "cell(0, 4)", x.cell(0, 4), 1);
        Check.refused(x, "cell(-1, 0)", x.cell(-1, 0), 1);
    }

    private static void daysToCome() {
        GargoyleClose x = Check.made(Check.PAGE);
        int[] ann = {0, 4, 8, 0, 4, 0, 0, 0, 0};
        int[] annHolds = {10, 10, 10, 7, 7, 4, 1, 0, 0};
        int[] bob = {0, 0, 3, 3, 6, 0, 3, 3, 6};
        int[] bobDrops = {0, 0, 1, 1, 2, 3, 4, 4, 5};
        int[] wet = {0, 0, 8, 34, 8, 10, 10, 2, 8};
        int[] fallen = {0, 0, 0, 4, 4, 4, 4, 5, 5};
        for (int n = 0; n <= 8; n++) {
            Check.due("ann bears behind " + n, x.bears(0, n), ann[n]);
            Check.due("ann holds behind " + n, x.holds(0, n), annHolds[n]);
            Check.due("bob bears behind " + n, x.bears(1, n), bob[n]);
            Check.due("bob drops within " + n, x.drops(1, n), bobDrops[n]);
            Check.due("wet on " + n, x.wet(n), n == 0 ? -1 : wet[n]);
            Check.due("fallen behind " + n, x.fallen(n), fallen[n]);
        }
        x.day();
        x.day();
        Check.due("behind two days, ann drops in", x.dropsIn(0), 1);
        Check.due("ann falls in", x.fallsIn(0), 5);
        Check.due("bob's canon keeps to the day's number", x.bears(1, 2), 6);
        Check.due("drops are of days to come", x.drops(1, 0), 0);
        Check.due("sunny", x.sunny(), 5 + 4);
        Check.due("heaviest", x.heaviest(), 6);
        Check.due("wet days of 3", x.wetDays(3, 60), 45);
        Check.due("wet days of a wall", x.wetDays(4, 60), 0);
        Check.refused(x, "wetDays(9, 0)", x.wetDays(9, 0), 1);
        Check.refused(x, "wetDays(0, 61)", x.wetDays(0, 61), 2);
        Check.refused(x, "holds(0, -1)", x.holds(0, -1), 2);
        Check.refused(x, "drops(4, 0)", x.drops(4, 0), 1);
        Check.refused(x, "drops(0, 61)", x.drops(0, 61), 2);
        Check.refused(x, "dropsIn(4)", x.dropsIn(4), 1);
        Check.refused(x, "fallsIn(-1)", x.fallsIn(-1), 1);
        Check.refused(x, "wet(61)", x.wet(61), 2);
        Check.refused(x, "fallen(61)", x.fallen(61), 2);
    }

    /** Each kind lets go at the very number, not below it. */
    private static void kinds() {
        GargoyleClose x = Check.made("close wide 2 deep 2 calm 0;face b bat holds 5 wears 4 at 0;"
            + "face l lion holds 5 wears 2 at 1;face p pig holds 5 wears 5 at 2");
        for (int f = 0; f < 3; f++) x.vex(f, 4);
        Check.due("none lets go of 4", x.wet(1), 0);
        for (int f = 0; f < 3; f++) x.vex(f, 1);
        Check.due("bat and lion let go of 5", x.wet(1), 3);
        for (int f = 0; f < 3; f++) x.vex(f, 4);
        Check.due("the pig does not of 9", x.wet(1), 3);
        Check.due("the bat bears nothing", x.bears(0, 1), 0);
        Check.due("the lion the rest", x.bears(1, 1), 4);
        Check.due("the lion once a day, of 3 then", x.bears(1, 2), 1);
        Check.due("one that holds 1 yet", x.holds(0, 1), 1);
        Check.due("the lion falls behind a third", x.fallsIn(1), 3);
        Check.due("and bears nothing", x.bears(1, 3), 0);
        x.vex(2, 1);
        Check.due("the pig lets go of 10", x.wet(1), 7);
        Check.due("and falls", x.fallen(1), 4);
        Check.due("falls in", x.fallsIn(2), 1);
    }

    private static void rows() {
        GargoyleClose x = Check.made("close wide 2 deep 2 calm 0;wall 2;wall 1;face p pig holds 1 wears 0 at 2;"
            + "face l bat holds 1 wears 0 at 1;canon c p vexed 2 every 1;canon d l vexed 1 every 1");
        Check.due("the wettest, the first, a wall too", x.wettest(), 1);
        Check.due("sunny never", x.sunny(), -2);
        Check.due("wet days of a wall", x.wetDays(2, 60), 60);
        Check.due("wet days of none", x.wetDays(2, 0), 0);
        Check.due("never falls", x.fallsIn(0), -2);
        Check.due("heaviest is behind days", x.heaviest(), 0);
        GargoyleClose y = Check.made("close wide 2 deep 2 calm 0;face l lion holds 1 wears 0 at 0;canon c l vexed 30 every 1");
        Check.due("a lion heaps up", y.heaviest(), 29 * 60);
        Check.due("its burden behind 60", y.bears(0, 60), 29 * 60);
    }

    private static void lastOfSixty() {
        GargoyleClose x = Check.made("close wide 2 deep 2 calm 0;face p pig holds 5 wears 5 at 0;canon c p vexed 1 every 6");
        Check.due("drops on the 60th", x.dropsIn(0), 60);
        Check.due("falls on the 60th", x.fallsIn(0), 60);
        Check.due("wet on the 60th", x.wetDays(0, 60), 1);
        Check.due("not on the 59th", x.wetDays(0, 59), 0);
        GargoyleClose late = Check.made("close wide 2 deep 2 calm 0;face b bat holds 61 wears 9 at 0;canon c b vexed 1 every 1");
        Check.due("not within 60", late.dropsIn(0), -2);
        GargoyleClose y = Check.made("close wide 2 deep 2 calm 0;face l lion holds 1 wears 0 at 0;walker w from 1 to 0");
        y.vex(0, 59);
        Check.due("sunny on the 60th", y.sunny(), 60);
        Check.due("dry on the 60th", y.dryDay(0), 60);
        y.vex(0, 1);
        Check.due("sunny on none", y.sunny(), -2);
        Check.due("dry on none", y.dryDay(0), -2);
        y.day();
        Check.due("wet", y.cell(0, 2), 1);
        Check.closes(y, SHORT);
        Check.due("no day of another close", y.cell(0, 2), 0);
    }

    private static void facesToCanons() {
        GargoyleClose x = Check.made(Check.PAGE);
        Check.due("dropsIf as it is", x.dropsIf(0, 0, 7), 9);
        Check.due("dropsIf led", x.dropsIf(2, 3, 3), 1 + 1);
        Check.due("faceFor, where none lets go", x.faceFor(1, 7), 3);
        Check.due("faceFor, his own of like ones", x.faceFor(1, 1), 1);
        Check.due("trouble", x.trouble(), 0);
        Check.due("faces stay", x.canon(0, 0), 0);
        Check.refused(x, "dropsIf(0, 4, 1)", x.dropsIf(0, 4, 1), 1);
        Check.refused(x, "dropsIf(3, 0, 1)", x.dropsIf(3, 0, 1), 1);
        Check.refused(x, "dropsIf(0, 0, 0)", x.dropsIf(0, 0, 0), 2);
        Check.refused(x, "dropsIf(0, 1, 1)", x.dropsIf(0, 1, 1), 5);
        Check.refused(x, "faceFor(3, 1)", x.faceFor(3, 1), 1);
        Check.refused(x, "faceFor(0, 0)", x.faceFor(0, 0), 2);
        Check.refused(x, "faceFor(0, 31)", x.faceFor(0, 31), 2);
        // a lets go more often, but b would fall: fewest fall goes ahead
        GargoyleClose y = Check.made("close wide 2 deep 2 calm 0;face a bat holds 1 wears 0 at 0;"
            + "face b bat holds 9 wears 9 at 1;face d bat holds 1 wears 0 at 2;canon c b vexed 3 every 1");
        Check.due("neither within 2", y.faceFor(0, 2), 1);
        Check.due("rather often than fallen, the first such", y.faceFor(0, 3), 0);
        y.vex(0, 1);
        Check.due("one that lets go anyhow", y.faceFor(0, 3), 0);
        Check.due("drops of all, of those without canons too", y.dropsIf(0, 1, 3), 2);
    }

    private static void matches() {
        GargoyleClose x = Check.made("close wide 2 deep 2 calm 0;face a bat holds 9 wears 0 at 0;face b bat holds 9 wears 0 at 1;"
            + "face d bat holds 99 wears 9 at 2;canon x b vexed 9 every 1;canon y a vexed 9 every 1");
        Check.due("match", x.match(2), 0);
        Check.due("its drops", x.matchDrops(2), 2);
        Check.due("the first row, 0", x.matchAt(0, 2), 0);
        Check.due("the first row, 1", x.matchAt(1, 2), 2);
        x.vex(1, 9);
        Check.due("what lets go without a canon counts", x.matchDrops(1), 1);
        Check.due("so its face is had", x.matchAt(0, 1), 1);
        Check.due("by the first", x.matchAt(1, 1), 2);
        Check.refused(x, "match(0)", x.match(0), 2);
        Check.refused(x, "match(31)", x.match(31), 2);
        Check.refused(x, "matchDrops(31)", x.matchDrops(31), 2);
        Check.refused(x, "matchAt(0, 31)", x.matchAt(0, 31), 2);
        Check.refused(x, "matchAt(2, 31)", x.matchAt(2, 31), 1);
        Check.refused(x, "matchAt(-1, 1)", x.matchAt(-1, 1), 1);
        GargoyleClose y = Check.made("close wide 2 deep 2 calm 0;face a bat holds 2 wears 2 at 0;canon x a vexed 2 every 1");
        Check.due("how many fall", y.match(1), 1);
        Check.due("a drop by which one falls", y.matchDrops(30), 1);
    }

    private static void tooFew() {
        GargoyleClose x = Check.made(SHORT);
        Check.due("enough faces", x.match(1), 1);
        x.day();
        Check.due("too few", x.match(1), -2);
        Check.due("too few, drops", x.matchDrops(30), -2);
        Check.due("no trouble", x.trouble(), 0);
        Check.refused(x, "matchAt with too few", x.matchAt(0, 1), 1);
        Check.refused(x, "matchAt with too few, and a number", x.matchAt(0, 0), 1);
        Check.refused(x, "match(0)", x.match(0), 2);
        Check.due("no face for who has a fallen one", x.faceFor(0, 1), -2);
        Check.due("his own", x.faceFor(1, 1), 1);
        Check.refused(x, "dropsIf with a fallen one, his own", x.dropsIf(0, 0, 1), 5);
        Check.due("those that have fallen don't fall again", x.fallen(60) & 1, 1);
        Check.due("dropsIn of a fallen one", x.dropsIn(0), -2);
        Check.due("fallsIn of a fallen one", x.fallsIn(0), 0);
    }

    private static void ways() {
        GargoyleClose x = Check.made(Check.PAGE);
        wayIs(x, 1, 1, 0, 0, 0, 1, 1);
        wayIs(x, 1, 2, 0, 1, 1, 0, 0);
        wayIs(x, 1, 3, 1, 0, 0, 1, 1);
        wayIs(x, 0, 1, 0, 1, 1);
        wayIs(x, 0, 3, 1, 1, 1);
        wayIs(x, 0, 5, 1, 1, 1);
        // dry, though it takes six steps: 1 is wet on the seventh day alone
        wayIs(x, 0, 7, 0, 2, 2, 1, 1, 0, 0);
        Check.due("a dry day", x.dryDay(0), 1);
        x.day();
        x.day();
        Check.due("dry from the second on", x.dryDay(0), 2);
        Check.refused(x, "wets(2, 1)", x.wets(2, 1), 1);
        Check.refused(x, "wets(0, 0)", x.wets(0, 0), 2);
        Check.refused(x, "way(-1, 1)", x.way(-1, 1), 1);
        Check.refused(x, "way(0, 61)", x.way(0, 61), 2);
        Check.refused(x, "wayAt(0, 1, -1)", x.wayAt(0, 1, -1), 1);
        Check.refused(x, "wayAt(0, 61, 0)", x.wayAt(0, 61, 0), 2);
        Check.refused(x, "wayAt(2, 61, 0)", x.wayAt(2, 61, 0), 1);
        Check.refused(x, "dryDay(2)", x.dryDay(2), 1);
        Check.due("no steps", x.steps(8, 8), 0);
        Check.due("a wall to itself", x.steps(4, 4), -2);
        Check.due("steps round it", x.steps(1, 7), 4);
        Check.refused(x, "steps(-1, 0)", x.steps(-1, 0), 1);
        GargoyleClose y = Check.made("close wide 2 deep 2 calm 0;face f bat holds 1 wears 0 at 0;canon c f vexed 1 every 1;"
            + "walker v from 0 to 0;walker w from 3 to 0");
        wayIs(y, 0, 1, 1);
        wayIs(y, 1, 60, 1, 0, 3);
        Check.due("never dry", y.dryDay(1), -2);
    }

    private static void wayIs(GargoyleClose x, int w, int n, int wets, int... steps) {
        String what = " of walker " + w + " on " + n;
        Check.due("wets" + what, x.wets(w, n), wets);
        Check.due("way" + what, x.way(w, n), steps.length);
        for (int i = 0; i < steps.length; i++) Check.due("step " + i + what, x.wayAt(w, n, i), steps[i]);
        Check.refused(x, "a step more" + what, x.wayAt(w, n, steps.length), 1);
    }

    private static void gates() {
        GargoyleClose x = Check.made(PARTED + "walker w from 0 to 2");
        Check.due("no way", x.steps(0, 2), -2);
        Check.due("no wets", x.wets(0, 1), -2);
        Check.due("no steps of it", x.way(0, 1), -2);
        Check.refused(x, "wayAt without a way", x.wayAt(0, 1, 0), 1);
        Check.due("no dry day", x.dryDay(0), -2);
        Check.due("the gate", x.gate(), 1);
        Check.due("no trouble", x.trouble(), 0);
        Check.due("the lower one", Check.made(PARTED + "walker w from 6 to 8").gate(), 7);
        Check.due("the middle one", Check.made(PARTED + "walker v from 3 to 5").gate(), 4);
        Check.due("of like ones the first cell", Check.made(PARTED + "walker v from 0 to 2;walker w from 6 to 8").gate(), 1);
        Check.due("without walkers the first cell", Check.made(PARTED + "canon c f vexed 1 every 1").gate(), 1);
        Check.due("without walls", Check.made(SHORT).gate(), -2);
        // 0 is shut in by 1 and 3, 5 by 2, 4, and 8: 60 for who has no way either way
        GargoyleClose y = Check.made("close wide 3 deep 3 calm 0;wall 1;wall 3;wall 2;wall 4;wall 8;face f bat holds 9 wears 0 at 1;"
            + "walker v from 5 to 6;walker w from 5 to 7;walker z from 0 to 6");
        Check.due("two get by rather than one", y.gate(), 4);
    }

    private static void unsure() {
        GargoyleClose x = Check.made(UNSURE);
        Check.due("fits", x.fits(), 4);
        int[] sets = {1, 3, 5, 7};
        for (int i = 0; i < 4; i++) Check.due("fit " + i, x.fitAt(i), sets[i]);
        Check.refused(x, "fitAt(4)", x.fitAt(4), 1);
        Check.refused(x, "fitAt(-1)", x.fitAt(-1), 1);
        Check.due("could", x.could(), 7);
        Check.due("surely", x.surely(), 1);
        Check.due("ask", x.ask(), 1);
        Check.due("askLeaves", x.askLeaves(), 2);
        Check.due("judge", x.judge(), 2);
        x.vex(0, 99);
        x.day();
        x.give(0, 0);
        Check.due("fits are from the beginning on", x.fits(), 4);
        Check.due("judge, too", x.judge(), 2);
        GargoyleClose none = Check.made(UNSURE.replace("dropped a day 2", "dropped a day 9"));
        Check.due("no fits", none.fits(), 0);
        Check.due("could of none", none.could(), 0);
        Check.due("surely of none", none.surely(), 0);
        Check.due("ask of none", none.ask(), -2);
        Check.due("askLeaves of none", none.askLeaves(), -2);
        Check.refused(none, "fitAt(0) of none", none.fitAt(0), 1);
        Check.due("judge by numbers", none.judge(), 0);
        GargoyleClose free = Check.made("close wide 2 deep 2 calm 0;face a bat holds 1 wears 0 at 0;dropped a day 1");
        Check.due("a face without a canon never lets go", free.fits(), 0);
        Check.due("judge it", free.judge(), 0);
        GargoyleClose page = Check.made(Check.PAGE);
        Check.due("fits of the page", page.fits(), 1);
        Check.due("its fit", page.fitAt(0), 0);
        Check.due("its could", page.could(), 0);
        Check.due("its surely", page.surely(), 0);
        Check.due("its ask", page.ask(), 0);
        Check.due("its askLeaves", page.askLeaves(), 1);
        Check.due("its judge", page.judge(), -2);
        GargoyleClose sure = Check.made(SHORT + ";dropped a day 1");
        Check.due("nobody unsure, fits", sure.fits(), 1);
        Check.due("nobody unsure, ask", sure.ask(), -2);
        Check.due("nobody unsure, leaves", sure.askLeaves(), -2);
        Check.due("no trouble", sure.trouble(), 0);
    }

    private static void bread() {
        GargoyleClose x = Check.made(SHORT);
        for (int ears = 0; ears <= 9; ears++) {
            Check.due("sulking, burnt", x.sulks(ears, true, true, false), 3 - ears);
            Check.due("sulking, burnt, bread", x.sulks(ears, true, true, true), 1);
            Check.due("sulking, not burnt", x.sulks(ears, true, false, false), -ears);
            Check.due("sulking, not burnt, bread", x.sulks(ears, true, false, true), 2);
            Check.due("not sulking, burnt", x.sulks(ears, false, true, false), 0);
            Check.due("not sulking, burnt, bread", x.sulks(ears, false, true, true), 3);
            Check.due("neither", x.sulks(ears, false, false, false), 2);
            Check.due("neither, bread", x.sulks(ears, false, false, true), 0);
            Check.due("rests of " + ears, x.rests(ears), ears < 3 ? 0 : 1);
            Check.due("rest of " + ears, x.rest(ears), ears < 3 ? -2 : 1);
            Check.due("no trouble", x.trouble(), 0);
        }
        Check.refused(x, "sulks(10)", x.sulks(10, true, true, false), -100, 2);
        Check.refused(x, "sulks(-1)", x.sulks(-1, false, false, true), -100, 2);
        Check.refused(x, "rests(10)", x.rests(10), 2);
        Check.refused(x, "rest(-1)", x.rest(-1), 2);
    }

    private static void chances() {
        GargoyleClose x = Check.made(Check.PAGE);
        Check.fraction("odds of ann in 3", x.odds(0, 3, false), x.odds(0, 3, true), 1, 8);
        Check.fraction("odds of ann in 4", x.odds(0, 4, false), x.odds(0, 4, true), 5, 16);
        Check.fraction("odds of ann in 2", x.odds(0, 2, false), x.odds(0, 2, true), 0, 1);
        Check.fraction("odds in none", x.odds(0, 0, false), x.odds(0, 0, true), 0, 1);
        Check.fraction("odds of bob in 2", x.odds(1, 2, false), x.odds(1, 2, true), 1, 2);
        Check.fraction("mean of ann in 1", x.mean(0, 1, false), x.mean(0, 1, true), 2, 1);
        Check.fraction("mean of ann in 3", x.mean(0, 3, false), x.mean(0, 3, true), 9, 2);
        Check.fraction("mean in none", x.mean(0, 0, false), x.mean(0, 0, true), 0, 1);
        Check.refused(x, "odds(4, 0)", x.odds(4, 0, false), 1);
        Check.refused(x, "odds(0, 8)", x.odds(0, 8, true), 2);
        Check.refused(x, "mean(-1, 0)", x.mean(-1, 0, true), 1);
        Check.refused(x, "mean(0, -1)", x.mean(0, -1, false), 2);
        x.vex(0, 10);
        Check.fraction("what is borne goes on a calm day, too", x.odds(0, 1, false), x.odds(0, 1, true), 1, 1);
        Check.due("no trouble", x.trouble(), 0);
        GargoyleClose y = Check.made("close wide 2 deep 2 calm 99;face f bat holds 99 wears 0 at 0;canon c f vexed 15 every 1");
        Check.fraction("all seven days", y.odds(0, 7, false), y.odds(0, 7, true), 1, 100_000_000_000_000L);
        Check.fraction("mean of one", y.mean(0, 1, false), y.mean(0, 1, true), 3, 20);
        GargoyleClose z = Check.made("close wide 2 deep 2 calm 100;face f bat holds 1 wears 0 at 0;canon c f vexed 30 every 1");
        Check.fraction("always calm", z.odds(0, 7, false), z.odds(0, 7, true), 0, 1);
        Check.fraction("always calm, mean", z.mean(0, 7, false), z.mean(0, 7, true), 0, 1);
    }

    /** Behind seed 0 come 74, 5624, 28652, 51790: mod 100 they are 74, 24, 52, 90. */
    private static void draws() {
        GargoyleClose x = Check.made(Check.PAGE);
        int[] ann = {0, 4, 4, 8, 0};
        int[] bob = {0, 0, 0, 0, 3};
        for (int n = 0; n <= 4; n++) {
            Check.due("ann by seed 0 behind " + n, x.borne(0, 0, n), ann[n]);
            Check.due("bob by seed 0 behind " + n, x.borne(1, 0, n), bob[n]);
        }
        Check.due("first wet", x.firstWet(0, 60), 4);
        Check.due("first wet on the last", x.firstWet(0, 4), 4);
        Check.due("not within 3", x.firstWet(0, 3), -2);
        // 65536 becomes (75 times -1 and 74) mod 65537, which is 65536 again: mod 100 it is 36
        Check.due("always calm by seed 65536", x.borne(0, 65536, 60), 0);
        Check.due("never wet by it", x.firstWet(65536, 60), -2);
        Check.refused(x, "borne(4, 0, 0)", x.borne(4, 0, 0), 1);
        Check.refused(x, "borne(0, 65537, 0)", x.borne(0, 65537, 0), 2);
        Check.refused(x, "borne(0, -1, 0)", x.borne(0, -1, 0), 2);
        Check.refused(x, "borne(0, 0, 61)", x.borne(0, 0, 61), 2);
        Check.refused(x, "firstWet(65537, 0)", x.firstWet(65537, 0), 2);
        Check.refused(x, "firstWet(0, -1)", x.firstWet(0, -1), 2);
    }

    private static void days() {
        GargoyleClose x = Check.made(Check.PAGE);
        int[] wet = {0, 8, 34, 8, 10, 10, 2, 8};
        for (int d = 0; d < wet.length; d++) Check.due("day " + (d + 1), x.day(), wet[d]);
        Check.due("days gone by", x.size(9), 8);
        Check.due("ann let go", x.face(0, 4), 4);
        Check.due("ann has fallen", x.face(0, 3), 1);
        for (int d = 8; d < 999; d++) x.day();
        Check.due("999 went by", x.size(9), 999);
        Check.refused(x, "a day more", x.day(), 3);
        Check.due("still 999", x.size(9), 999);
    }

    private static void given() {
        GargoyleClose x = Check.made(Check.PAGE);
        Check.due("give", x.give(0, 3), 0);
        Check.due("his face", x.canon(0, 0), 3);
        Check.due("its canon", x.face(3, 5), 0);
        Check.due("the one he had", x.face(0, 5), -2);
        Check.due("what vexes him goes there", x.bears(3, 2), 8);
        Check.due("and no more to the other", x.bears(0, 2), 0);
        Check.refused(x, "give his own", x.give(0, 3), 5);
        Check.refused(x, "give another's", x.give(0, 1), 5);
        Check.refused(x, "give(3, 0)", x.give(3, 0), 1);
        Check.refused(x, "give(0, 4)", x.give(0, 4), 1);
        x.day();
        x.day();
        x.day();
        Check.due("cob's canon gets away", x.give(2, 0), 2);
        Check.refused(x, "give one that has fallen", x.give(0, 2), 5);
        Check.due("acts", x.size(10), 5);
    }

    private static void mended() {
        GargoyleClose x = Check.made(Check.PAGE);
        Check.refused(x, "mend as told", x.mend(0), 5);
        Check.refused(x, "mend(4)", x.mend(4), 1);
        x.day();
        Check.due("mend what bears", x.mend(0), true);
        Check.due("bears nothing", x.face(0, 2), 0);
        x.day();
        x.day();
        x.day();
        Check.due("it let go then", x.face(0, 4), 1);
        Check.due("mend what holds less", x.mend(0), true);
        Check.due("no trouble", x.trouble(), 0);
        Check.due("holds as told", x.face(0, 1), 10);
        Check.due("how often stays", x.face(0, 4), 1);
        Check.refused(x, "mend one that has fallen", x.mend(2), 5);
    }

    private static void vexed() {
        GargoyleClose x = Check.made(Check.PAGE);
        for (int i = 1; i <= 10; i++) Check.due("vex", x.vex(3, 99), 99 * i);
        Check.refused(x, "vex above 999", x.vex(3, 10), 3);
        Check.due("vex to 999", x.vex(3, 9), 999);
        Check.refused(x, "vex above 999 by one", x.vex(3, 1), 3);
        Check.refused(x, "vex(3, 0)", x.vex(3, 0), 2);
        Check.refused(x, "vex(3, 100)", x.vex(3, 100), 2);
        Check.refused(x, "vex(4, 0)", x.vex(4, 0), 1);
        x.vex(2, 9);
        x.day();
        Check.refused(x, "vex one that has fallen", x.vex(2, 1), 5);
        Check.refused(x, "vex one that has fallen by 0", x.vex(2, 0), 2);
    }

    private static void undone() {
        GargoyleClose x = Check.made(Check.PAGE);
        Check.refused(x, "nothing to undo", x.undo(), 6);
        x.day();
        x.day();
        Check.due("wet", x.cell(3, 2), 1);
        Check.due("undo a day", x.undo(), true);
        Check.due("no trouble", x.trouble(), 0);
        Check.due("wet no more", x.cell(3, 2), 0);
        Check.due("days", x.size(9), 1);
        Check.due("let go no more", x.face(1, 4), 0);
        Check.due("bears", x.face(0, 2), 4);
        x.mend(0);
        x.undo();
        Check.due("undo mend", x.face(0, 2), 4);
        x.give(0, 3);
        x.undo();
        Check.due("undo give", x.canon(0, 0), 0);
        x.give(0, 1);
        Check.due("what is refused is no act", x.size(10), 1);
        for (int i = 0; i < 20; i++) x.vex(3, 1);
        Check.due("16 are kept", x.size(10), 16);
        for (int i = 0; i < 16; i++) Check.due("undo", x.undo(), true);
        Check.refused(x, "undo a 17th", x.undo(), 6);
        Check.due("four stay", x.face(3, 2), 4);
        x.image();
        Check.due("an image is no act", x.size(10), 0);
    }

    private static void imaged() {
        GargoyleClose x = Check.made(Check.PAGE);
        Check.due("image", x.image(), 0);
        x.day();
        x.day();
        x.give(2, 3);
        Check.due("image behind acts", x.image(), 1);
        x.vex(3, 7);
        Check.due("a third", x.image(), 2);
        Check.refused(x, "a fourth", x.image(), 3);
        Check.due("images", x.size(11), 3);
        Check.due("acts", x.size(10), 4);
        Check.due("back to the first", x.back(0), true);
        Check.due("no trouble", x.trouble(), 0);
        Check.due("its days", x.size(9), 0);
        Check.due("its burden", x.burden(), 0);
        Check.due("its wet cells", x.cell(3, 2), 0);
        Check.due("nothing to undo", x.size(10), 0);
        Check.refused(x, "undo", x.undo(), 6);
        Check.due("images stay", x.size(11), 3);
        x.vex(0, 1);
        Check.due("on to the second", x.back(1), true);
        Check.due("its faces", x.canon(2, 0), 3);
        Check.due("its burden", x.face(3, 2), 0);
        Check.due("its wet cells", x.cell(3, 2), 1);
        Check.due("how often", x.face(1, 4), 1);
        x.day();
        Check.due("to it again", x.back(1), true);
        Check.due("it is as it was", x.size(9), 2);
        Check.refused(x, "back(3)", x.back(3), 1);
        Check.refused(x, "back(-1)", x.back(-1), 1);
    }

    private static void left() {
        GargoyleClose x = Check.made(Check.PAGE);
        Check.due("led(0)", x.led(0), 3);
        Check.due("led(1) throws", Check.ledThrows(x, 1), true);
        Check.due("led(-1) throws", Check.ledThrows(x, -1), true);
        x.give(0, 3);
        Check.due("the one that is left", x.led(0), 0);
        x.day();
        x.day();
        x.day();
        x.give(2, 0);
        Check.due("none that has fallen", Check.ledThrows(x, 0), true);
        x.back(5);
        Check.ledThrows(x, 0);
        Check.due("led leaves trouble alone", x.trouble(), 1);
    }

    private static void orderOfTroubles() {
        GargoyleClose x = Check.made(SHORT);
        x.day();
        Check.refused(x, "bears(2, 61)", x.bears(2, 61), 1);
        Check.refused(x, "wetDays(4, 61)", x.wetDays(4, 61), 1);
        Check.refused(x, "dropsIf(2, 0, 0)", x.dropsIf(2, 0, 0), 1);
        Check.refused(x, "dropsIf(0, 0, 0)", x.dropsIf(0, 0, 0), 2);
        Check.refused(x, "faceFor(2, 0)", x.faceFor(2, 0), 1);
        Check.refused(x, "odds(2, 8)", x.odds(2, 8, true), 1);
        Check.refused(x, "borne(2, -1, 61)", x.borne(2, -1, 61), 1);
        Check.refused(x, "vex(0, 100)", x.vex(0, 100), 2);
        Check.due("burden", x.burden(), 2);
        Check.due("a call that isn't refused", x.trouble(), 0);
    }
}
