/** Each boundary that the document names of questions: terms II and III, promises 6 to 45. */
public final class AskEdgesTest {
    private static final String SMALL = "close wide 2 deep 2 calm 0";
    /** A pig that needs ten vexations of 1 to let go, and falls by it. */
    private static final String PIG = "face p pig holds 5 wears 5 at 0";
    private static final String LION = "face l lion holds 1 wears 0 at 0";

    public static void main(String[] args) {
        face();
        canon();
        cell();
        cellsAside();
        burden();
        kinds();
        wears();
        every();
        bearsHoldsDrops();
        dropsIn();
        fallsIn();
        wet();
        wetDays();
        wettest();
        sunny();
        heaviest();
        fallen();
        dropsIf();
        faceFor();
        match();
        matchAt();
        steps();
        ways();
        rowsOfSteps();
        dryDay();
        gate();
        fits();
        setsAsBits();
        ask();
        judge();
        sulks();
        rests();
        odds();
        mean();
        borne();
        firstWet();
        allFull();
        questionsChangeNothing();
        Check.end();
    }

    private static GargoyleClose made(String... lines) {
        return Check.made(Check.lines(lines));
    }

    // ---- now

    private static void face() {
        GargoyleClose x = Check.made(Check.PAGE);
        Check.bounds(x, "face(f, 0)", 0, 3, 1, f -> x.face(f, 0));
        Check.bounds(x, "face(0, what)", 0, 6, 1, what -> x.face(0, what));
        Check.refused(x, "face(4, 7)", x.face(4, 7), 1);
        Check.due("never let go", x.face(2, 4), 0);
        Check.due("days to come are none gone by", x.drops(2, 60), 1);
        Check.due("never yet", x.face(2, 4), 0);
        for (int d = 0; d < 3; d++) x.day();
        int[] fallen = {2, 0, 0, 1, 1, 2, 5};
        for (int what = 0; what <= 6; what++) Check.due("of a face that has fallen " + what, x.face(2, what), fallen[what]);
        x.undo();
        Check.due("the day undone counts no more", x.face(2, 4), 0);
        Check.due("it holds", x.face(2, 1), 4);
        Check.due("no canon", x.face(3, 5), -2);
    }

    private static void canon() {
        GargoyleClose x = Check.made(Check.PAGE);
        Check.bounds(x, "canon(c, 0)", 0, 2, 1, c -> x.canon(c, 0));
        Check.bounds(x, "canon(0, what)", 0, 2, 1, what -> x.canon(0, what));
        GargoyleClose none = made(SMALL, LION);
        Check.refused(none, "canon(0, 0) without canons", none.canon(0, 0), 1);
        GargoyleClose far = made(SMALL, LION, "canon c l vexed 30 every 9");
        Check.due("the most vexed", far.canon(0, 1), 30);
        Check.due("the seldomest", far.canon(0, 2), 9);
    }

    private static void cell() {
        GargoyleClose x = Check.made(Check.PAGE);
        Check.bounds(x, "cell(k, 0)", 0, 8, 1, k -> x.cell(k, 0));
        Check.bounds(x, "cell(0, what)", 0, 3, 1, what -> x.cell(0, what));
        for (int k = 0; k < 9; k++) Check.due("wet ahead of any day, " + k, x.cell(k, 2), 0);
        Check.due("a day on which one is wet", x.day() + x.day(), 8);
        Check.due("it is", x.cell(3, 2), 1);
        x.vex(3, 1);
        x.give(0, 3);
        x.mend(3);
        Check.due("acts but days leave it", x.cell(3, 2), 1);
        Check.due("others aren't", x.cell(1, 2), 0);
        x.undo();
        x.undo();
        x.undo();
        x.undo();
        Check.due("the latest day is the first again", x.cell(3, 2), 0);
        GargoyleClose wall = made(SMALL, "wall 0", LION);
        Check.due("a wall", wall.cell(0, 0), 1);
        Check.due("no wall", wall.cell(1, 0), 0);
        Check.due("a face over a wall", wall.cell(0, 1), 0);
        wall.vex(0, 1);
        wall.day();
        Check.due("a wall can be wet", wall.cell(0, 2), 1);
        Check.bounds(wall, "cell of the least close", 0, 3, 1, k -> wall.cell(k, 1));
        GargoyleClose large = made("close wide 5 deep 4 calm 0", LION);
        Check.bounds(large, "cell of the largest close", 0, 19, 1, k -> large.cell(k, 1));
    }

    private static void cellsAside() {
        GargoyleClose x = made("close wide 5 deep 4 calm 0", LION);
        Check.due("north-west", x.cell(0, 3), 1 << 1 | 1 << 5);
        Check.due("north-east, not the row below", x.cell(4, 3), 1 << 3 | 1 << 9);
        Check.due("west, not the row above", x.cell(5, 3), 1 | 1 << 6 | 1 << 10);
        Check.due("amid", x.cell(7, 3), 1 << 2 | 1 << 6 | 1 << 8 | 1 << 12);
        Check.due("south-west", x.cell(15, 3), 1 << 10 | 1 << 16);
        Check.due("south-east", x.cell(19, 3), 1 << 14 | 1 << 18);
        GargoyleClose shut = made(SMALL, "wall 1", "wall 2", LION);
        Check.due("shut in", shut.cell(0, 3), 0);
        Check.due("a wall", shut.cell(1, 3), 0);
        GargoyleClose open = made(SMALL, LION);
        Check.due("of four, 0", open.cell(0, 3), 6);
        Check.due("of four, 1", open.cell(1, 3), 9);
        Check.due("of four, 2", open.cell(2, 3), 9);
        Check.due("of four, 3", open.cell(3, 3), 6);
    }

    private static void burden() {
        GargoyleClose x = made("close wide 5 deep 4 calm 0", "face a lion holds 99 wears 0 at 0", "face b lion holds 99 wears 0 at 1",
            "face c lion holds 99 wears 0 at 2", "face d lion holds 99 wears 0 at 3", "face e lion holds 99 wears 0 at 4",
            "face f lion holds 99 wears 0 at 5");
        Check.due("nothing", x.burden(), 0);
        for (int f = 0; f < 6; f++) {
            for (int i = 0; i < 10; i++) x.vex(f, 99);
            x.vex(f, 9);
        }
        Check.due("all that can be vexed", x.burden(), 6 * 999);
    }

    // ---- a day

    /** One below what a kind needs, the very number, one above. */
    private static void kinds() {
        for (int much = 9; much <= 21; much++) {
            GargoyleClose x = made(SMALL, "face b bat holds 10 wears 0 at 0", "face l lion holds 10 wears 0 at 1", "face p pig holds 10 wears 0 at 2");
            for (int f = 0; f < 3; f++) x.vex(f, much);
            Check.due("wet of " + much, x.day(), much < 10 ? 0 : much < 20 ? 3 : 7);
            Check.due("the bat of " + much, x.face(0, 2), much < 10 ? much : 0);
            Check.due("the lion of " + much, x.face(1, 2), much < 10 ? much : much - 10);
            Check.due("the pig of " + much, x.face(2, 2), much < 20 ? much : 0);
            Check.due("a lion once a day, of " + much, x.face(1, 4), much < 10 ? 0 : 1);
        }
    }

    /** What it holds may come down to 1, not below. */
    private static void wears() {
        for (int wears = 0; wears <= 9; wears++) {
            GargoyleClose x = made(SMALL, "face l lion holds 6 wears " + wears + " at 0");
            x.vex(0, 99);
            int wet = x.day();
            Check.due("wet, falling or not", wet, 1);
            Check.due("holds, wearing " + wears, x.face(0, 1), wears < 6 ? 6 - wears : 0);
            Check.due("fallen, wearing " + wears, x.face(0, 3), wears < 6 ? 0 : 1);
            Check.due("bears, wearing " + wears, x.face(0, 2), wears < 6 ? 93 : 0);
        }
        GargoyleClose x = made(SMALL, LION.replace("wears 0", "wears 1"), "canon c l vexed 30 every 1");
        Check.due("falls", x.day(), 1);
        for (int d = 0; d < 5; d++) Check.due("dry ever after", x.day(), 0);
        Check.due("bears nothing ever after", x.face(0, 2), 0);
        Check.due("let go once", x.face(0, 4), 1);
    }

    private static void every() {
        for (int every = 1; every <= 9; every++) {
            GargoyleClose x = made(SMALL, "face b bat holds 99 wears 0 at 0", "canon c b vexed 1 every " + every);
            for (int d = 1; d <= 20; d++) {
                x.day();
                Check.due("every " + every + ", behind day " + d, x.face(0, 2), d / every);
                Check.due("every " + every + ", 30 days on from " + d, x.bears(0, 30), (d + 30) / every);
            }
        }
    }

    // ---- days to come

    private static void bearsHoldsDrops() {
        GargoyleClose x = made(SMALL, LION, "face g bat holds 9 wears 8 at 1", "canon c l vexed 1 every 1", "canon d g vexed 9 every 1");
        Check.bounds(x, "bears(f, 0)", 0, 1, 1, f -> x.bears(f, 0));
        Check.bounds(x, "holds(f, 0)", 0, 1, 1, f -> x.holds(f, 0));
        Check.bounds(x, "drops(f, 0)", 0, 1, 1, f -> x.drops(f, 0));
        Check.bounds(x, "bears(0, n)", 0, 60, 2, n -> x.bears(0, n));
        Check.bounds(x, "holds(0, n)", 0, 60, 2, n -> x.holds(0, n));
        Check.bounds(x, "drops(0, n)", 0, 60, 2, n -> x.drops(0, n));
        Check.refused(x, "bears(2, 61)", x.bears(2, 61), 1);
        Check.refused(x, "holds(2, 61)", x.holds(2, 61), 1);
        Check.refused(x, "drops(2, 61)", x.drops(2, 61), 1);
        Check.due("holds now", x.holds(1, 0), 9);
        Check.due("holds 1 yet", x.holds(1, 1), 1);
        Check.due("has fallen then", x.holds(1, 2), 0);
        Check.due("bears nothing then", x.bears(1, 60), 0);
        Check.due("drops within none", x.drops(0, 0), 0);
        Check.due("drops within all", x.drops(0, 60), 60);
        Check.due("until it fell", x.drops(1, 60), 2);
        x.vex(0, 50);
        Check.due("bears now", x.bears(0, 0), 50);
        Check.due("bears behind 60", x.bears(0, 60), 50);
    }

    private static GargoyleClose bat(int holds) {
        return made(SMALL, "face b bat holds " + holds + " wears 0 at 0", "canon c b vexed 1 every 1");
    }

    private static void dropsIn() {
        GargoyleClose page = Check.made(Check.PAGE);
        Check.bounds(page, "dropsIn(f)", 0, 3, 1, page::dropsIn);
        Check.due("tomorrow", bat(1).dropsIn(0), 1);
        Check.due("on the 60th", bat(60).dropsIn(0), 60);
        GargoyleClose late = bat(61);
        Check.due("on the 61st", late.dropsIn(0), -2);
        Check.due("no trouble", late.trouble(), 0);
        late.day();
        Check.due("on the 60th from now", late.dropsIn(0), 60);
        GargoyleClose none = made(SMALL, LION);
        Check.due("no canon", none.dropsIn(0), -2);
        none.vex(0, 1);
        Check.due("no canon, but it bears enough", none.dropsIn(0), 1);
        none.day();
        Check.due("it let go already", none.dropsIn(0), -2);
        GargoyleClose fallen = made(SMALL, PIG, "canon c p vexed 30 every 1");
        fallen.day();
        Check.due("one that has fallen", fallen.dropsIn(0), -2);
    }

    private static void fallsIn() {
        GargoyleClose page = Check.made(Check.PAGE);
        Check.bounds(page, "fallsIn(f)", 0, 3, 1, page::fallsIn);
        GargoyleClose soon = made(SMALL, PIG, "canon c p vexed 10 every 1");
        Check.due("tomorrow", soon.fallsIn(0), 1);
        soon.day();
        Check.due("it has", soon.fallsIn(0), 0);
        Check.due("no trouble", soon.trouble(), 0);
        Check.due("on the 60th", made(SMALL, PIG, "canon c p vexed 1 every 6").fallsIn(0), 60);
        GargoyleClose late = made(SMALL, PIG, "canon c p vexed 1 every 7");
        for (int d = 1; d <= 9; d++) late.day();
        Check.due("on the 61st", late.fallsIn(0), -2);
        late.day();
        Check.due("on the 60th from now", late.fallsIn(0), 60);
        Check.due("lets go, never falls", bat(1).fallsIn(0), -2);
    }

    private static void wet() {
        GargoyleClose x = made("close wide 5 deep 4 calm 0", LION, "face p pig holds 5 wears 5 at 19", "canon c l vexed 1 every 1", "canon d p vexed 1 every 6");
        Check.bounds(x, "wet(n)", 1, 60, 2, x::wet);
        Check.due("on the first", x.wet(1), 1);
        Check.due("on the 59th", x.wet(59), 1);
        Check.due("on the 60th the last cell too", x.wet(60), 1 | 1 << 19);
        x.day();
        Check.due("a day later", x.wet(59), 1 | 1 << 19);
        Check.due("behind its fall", x.wet(60), 1);
        GargoyleClose undone = made(SMALL, LION);
        undone.vex(0, 1);
        Check.due("wet by an act", undone.wet(1), 1);
        undone.undo();
        Check.due("dry, the act undone", undone.wet(1), 0);
    }

    private static void wetDays() {
        GargoyleClose x = made("close wide 5 deep 4 calm 0", "wall 19", LION, "face p pig holds 5 wears 5 at 19",
            "canon c l vexed 1 every 1", "canon d p vexed 1 every 6");
        Check.bounds(x, "wetDays(k, 0)", 0, 19, 1, k -> x.wetDays(k, 0));
        Check.bounds(x, "wetDays(0, n)", 0, 60, 2, n -> x.wetDays(0, n));
        Check.refused(x, "wetDays(20, 61)", x.wetDays(20, 61), 1);
        Check.due("none of none", x.wetDays(0, 0), 0);
        Check.due("all", x.wetDays(0, 60), 60);
        Check.due("no face over it", x.wetDays(1, 60), 0);
        Check.due("a wall, not yet", x.wetDays(19, 59), 0);
        Check.due("a wall", x.wetDays(19, 60), 1);
    }

    private static void wettest() {
        GargoyleClose x = made("close wide 5 deep 4 calm 0", "wall 19", "face a lion holds 1 wears 0 at 19", "face b lion holds 1 wears 0 at 7");
        Check.due("none is wet: the first", x.wettest(), 0);
        x.vex(0, 2);
        Check.due("the last, a wall", x.wettest(), 19);
        x.vex(1, 2);
        Check.due("of like ones the first, whichever face is", x.wettest(), 7);
        x.vex(0, 1);
        Check.due("more often", x.wettest(), 19);
        x.vex(0, 96);
        x.vex(1, 97);
        Check.due("days beyond the 60th don't count", x.wettest(), 7);
        Check.due("no trouble", x.trouble(), 0);
        GargoyleClose two = made(SMALL, "face m lion holds 1 wears 0 at 1", LION);
        two.vex(0, 1);
        Check.due("the second alone", two.wettest(), 1);
        two.vex(1, 1);
        Check.due("the first two alike", two.wettest(), 0);
        two.vex(0, 1);
        Check.due("the second more often", two.wettest(), 1);
    }

    private static void sunny() {
        GargoyleClose x = made(SMALL, LION);
        Check.due("tomorrow", x.sunny(), 1);
        x.vex(0, 1);
        Check.due("the day behind it", x.sunny(), 2);
        x.vex(0, 58);
        Check.due("on the 60th", x.sunny(), 60);
        x.vex(0, 1);
        Check.due("on the 61st", x.sunny(), -2);
        Check.due("no trouble", x.trouble(), 0);
        GargoyleClose two = made(SMALL, LION, "face m lion holds 1 wears 0 at 1", "canon c l vexed 1 every 2");
        two.vex(1, 1);
        Check.due("wet by one, then by the other", two.sunny(), 3);
    }

    private static void heaviest() {
        GargoyleClose x = made(SMALL, LION, "face b bat holds 99 wears 0 at 1");
        Check.due("nothing", x.heaviest(), 0);
        x.vex(0, 5);
        Check.due("not what is borne now", x.heaviest(), 4);
        x.vex(1, 4);
        Check.due("nor two together", x.heaviest(), 4);
        x.vex(1, 1);
        Check.due("the other", x.heaviest(), 5);
        Check.due("behind the 60th, not the 61st", bat(99).heaviest(), 60);
        GargoyleClose fallen = made(SMALL, PIG);
        fallen.vex(0, 10);
        Check.due("one that falls", fallen.heaviest(), 0);
        fallen.day();
        Check.due("one that has fallen", fallen.heaviest(), 0);
    }

    private static void fallen() {
        GargoyleClose x = made(SMALL, LION, "face p pig holds 5 wears 5 at 1", "face q pig holds 5 wears 5 at 2",
            "canon c l vexed 1 every 1", "canon d p vexed 1 every 6", "canon e q vexed 10 every 1");
        Check.bounds(x, "fallen(n)", 0, 60, 2, x::fallen);
        Check.due("now", x.fallen(0), 0);
        Check.due("tomorrow", x.fallen(1), 4);
        Check.due("behind 59", x.fallen(59), 4);
        Check.due("behind 60", x.fallen(60), 6);
        x.day();
        Check.due("now, one has", x.fallen(0), 4);
    }

    // ---- faces to canons

    private static void dropsIf() {
        GargoyleClose x = made(SMALL, PIG, "face q bat holds 15 wears 0 at 1", "face r bat holds 1 wears 9 at 2",
            "canon c p vexed 1 every 3", "canon d r vexed 1 every 1");
        Check.bounds(x, "dropsIf(c, 1, 1)", 0, 1, 1, c -> x.dropsIf(c, 1, 1));
        GargoyleClose own = made(SMALL, PIG, "face q bat holds 15 wears 0 at 1", "canon c p vexed 1 every 3");
        Check.bounds(own, "dropsIf(0, f, 1)", 0, 1, 1, f -> own.dropsIf(0, f, 1));
        Check.bounds(x, "dropsIf(0, 0, n)", 1, 30, 2, n -> x.dropsIf(0, 0, n));
        Check.refused(x, "dropsIf(2, 0, 31)", x.dropsIf(2, 0, 31), 1);
        Check.refused(x, "dropsIf(0, 2, 31), another's", x.dropsIf(0, 2, 31), 2);
        Check.refused(x, "dropsIf(0, 2, 1), another's", x.dropsIf(0, 2, 1), 5);
        Check.due("his own, behind 29", x.dropsIf(0, 0, 29), 1);
        Check.due("his own, behind 30", x.dropsIf(0, 0, 30), 2);
        Check.due("one that no canon has", x.dropsIf(0, 1, 30), 1);
        Check.due("the other one's doesn't fall then", x.dropsIf(1, 1, 15), 1);
        x.day();
        Check.due("one that has fallen lets go no more", x.dropsIf(0, 0, 28), 0);
        Check.due("others do", x.dropsIf(0, 0, 29), 1);
        Check.refused(x, "dropsIf(1, 2, 1), his own, fallen", x.dropsIf(1, 2, 1), 5);
        Check.refused(x, "dropsIf(1, 2, 0), his own, fallen", x.dropsIf(1, 2, 0), 2);
        x.give(1, 1);
        Check.refused(x, "dropsIf(0, 2, 1), none's, fallen", x.dropsIf(0, 2, 1), 5);
        Check.due("faces stay as they were", x.canon(0, 0), 0);
    }

    private static void faceFor() {
        GargoyleClose x = made(SMALL, "face a pig holds 5 wears 5 at 0", "face b bat holds 9 wears 0 at 1", "face e bat holds 9 wears 0 at 2",
            "canon c a vexed 1 every 3");
        Check.bounds(x, "faceFor(c, 1)", 0, 0, 1, c -> x.faceFor(c, 1));
        Check.bounds(x, "faceFor(0, n)", 1, 30, 2, n -> x.faceFor(0, n));
        Check.refused(x, "faceFor(1, 31)", x.faceFor(1, 31), 1);
        Check.due("of like ones the first, his own", x.faceFor(0, 26), 0);
        Check.due("fewest drops: his own lets go on the 30th only", x.faceFor(0, 29), 0);
        Check.due("on the 30th his own falls, others let go", x.faceFor(0, 30), 1);
        GargoyleClose few = made(SMALL, "face a bat holds 1 wears 9 at 0", "face b bat holds 9 wears 0 at 1", "face e bat holds 1 wears 9 at 2",
            "canon c a vexed 1 every 1", "canon d b vexed 1 every 1");
        few.vex(2, 1);
        few.day();
        Check.due("all of his have fallen", few.faceFor(0, 1), -2);
        Check.due("no trouble", few.trouble(), 0);
        Check.due("the other one keeps his", few.faceFor(1, 30), 1);
        GargoyleClose free = made(SMALL, "face a bat holds 1 wears 9 at 0", "face b bat holds 1 wears 9 at 1", "canon c a vexed 1 every 1");
        free.day();
        Check.due("one that no canon has, though it falls then", free.faceFor(0, 1), 1);
    }

    private static void match() {
        GargoyleClose x = made(SMALL, "face a bat holds 1 wears 9 at 0", "face b bat holds 5 wears 9 at 1", "canon c a vexed 1 every 1", "canon d b vexed 1 every 1");
        Check.bounds(x, "match(n)", 1, 30, 2, x::match);
        Check.bounds(x, "matchDrops(n)", 1, 30, 2, x::matchDrops);
        Check.due("enough faces, just", x.match(4), 1);
        Check.due("the fifth day", x.match(5), 2);
        x.day();
        Check.due("too few", x.match(5), -2);
        Check.due("no trouble", x.trouble(), 0);
        Check.due("too few, drops", x.matchDrops(5), -2);
        Check.refused(x, "too few, and a number", x.match(31), 2);
        Check.refused(x, "too few, drops, and a number", x.matchDrops(0), 2);
        GargoyleClose none = made(SMALL, PIG, LION.replace("at 0", "at 1"));
        Check.due("no canons", none.match(30), 0);
        Check.due("no canons, drops", none.matchDrops(30), 0);
        none.vex(0, 10);
        none.vex(1, 30);
        Check.due("of all, those that no canon has, too", none.match(1), 1);
        Check.due("so with drops", none.matchDrops(30), 31);
        none.day();
        Check.due("what fell ahead doesn't fall again", none.match(30), 0);
        Check.due("nor does it let go", none.matchDrops(30), 29);
        GargoyleClose last = made(SMALL, PIG, "canon c p vexed 1 every 3");
        Check.due("within 29", last.match(29) + last.matchDrops(29), 0);
        Check.due("within 30", last.match(30), 1);
        Check.due("within 30, drops", last.matchDrops(30), 1);
        GargoyleClose gone = made(SMALL, PIG);
        gone.vex(0, 10);
        gone.day();
        Check.due("no face is left, and no canon needs one", gone.match(1), 0);
    }

    private static void matchAt() {
        GargoyleClose x = made(SMALL, "face a bat holds 1 wears 9 at 0", "face b bat holds 5 wears 9 at 1", "face e bat holds 5 wears 9 at 2",
            "canon c b vexed 1 every 1", "canon d a vexed 1 every 1");
        Check.bounds(x, "matchAt(c, 1)", 0, 1, 1, c -> x.matchAt(c, 1));
        Check.bounds(x, "matchAt(0, n)", 1, 30, 2, n -> x.matchAt(0, n));
        Check.refused(x, "matchAt(2, 31)", x.matchAt(2, 31), 1);
        Check.due("fewest fall, the first", x.matchAt(0, 4), 1);
        Check.due("fewest fall, the second", x.matchAt(1, 4), 2);
        Check.due("of rows in which two fall the first", x.matchAt(0, 5), 0);
        Check.due("its second", x.matchAt(1, 5), 1);
        Check.due("faces stay as they were", x.canon(0, 0), 1);
        x.vex(2, 5);
        Check.due("one lets go, whoever has it", x.matchDrops(1), 1);
        Check.due("so it is had, and another one is spared", x.matchAt(0, 1) * 10 + x.matchAt(1, 1), 12);
        x.undo();
        x.day();
        Check.due("two of two", x.matchAt(0, 1) * 10 + x.matchAt(1, 1), 12);
        x.vex(2, 5);
        x.day();
        Check.refused(x, "too few", x.matchAt(0, 1), 1);
        GargoyleClose none = made(SMALL, LION);
        Check.refused(none, "no canons", none.matchAt(0, 1), 1);
        GargoyleClose first = made(SMALL, "face a bat holds 1 wears 9 at 0", "face b bat holds 1 wears 9 at 1", "canon c a vexed 1 every 1");
        first.day();
        Check.due("none that has fallen, though no canon could vex it", first.matchAt(0, 1), 1);
    }

    // ---- ways

    private static void steps() {
        GargoyleClose x = made("close wide 5 deep 3 calm 0", "wall 5", "wall 6", "wall 7", "wall 8", LION);
        Check.bounds(x, "steps(from, 0)", 0, 14, 1, from -> x.steps(from, 0));
        Check.bounds(x, "steps(0, to)", 0, 14, 1, to -> x.steps(0, to));
        Check.due("a long way round", x.steps(0, 10), 10);
        Check.due("and back", x.steps(10, 0), 10);
        Check.due("nowhere", x.steps(9, 9), 0);
        Check.due("from a wall", x.steps(5, 0), -2);
        Check.due("to a wall", x.steps(0, 5), -2);
        Check.due("a wall to itself", x.steps(5, 5), -2);
        Check.due("no trouble", x.trouble(), 0);
        GargoyleClose shut = made(SMALL, "wall 1", "wall 2", LION);
        Check.due("no way", shut.steps(0, 3), -2);
        GargoyleClose wet = made(SMALL, LION, "canon c l vexed 1 every 1");
        Check.due("however wet", wet.steps(1, 2), 2);
    }

    private static void ways() {
        GargoyleClose x = made(SMALL, LION, "canon c l vexed 1 every 2", "walker v from 0 to 0", "walker w from 1 to 2");
        Check.bounds(x, "wets(w, 1)", 0, 1, 1, w -> x.wets(w, 1));
        Check.bounds(x, "way(w, 1)", 0, 1, 1, w -> x.way(w, 1));
        Check.bounds(x, "wayAt(w, 1, 0)", 1, 1, 1, w -> x.wayAt(w, 1, 0));
        Check.bounds(x, "wets(0, n)", 1, 60, 2, n -> x.wets(0, n));
        Check.bounds(x, "way(0, n)", 1, 60, 2, n -> x.way(0, n));
        Check.bounds(x, "wayAt(1, n, 0)", 1, 60, 2, n -> x.wayAt(1, n, 0));
        Check.bounds(x, "wayAt(1, 1, i)", 0, 1, 1, i -> x.wayAt(1, 1, i));
        Check.refused(x, "wets(2, 61)", x.wets(2, 61), 1);
        Check.refused(x, "way(2, 61)", x.way(2, 61), 1);
        Check.refused(x, "wayAt(2, 61, 0)", x.wayAt(2, 61, 0), 1);
        Check.refused(x, "wayAt(0, 1, 0), of no steps", x.wayAt(0, 1, 0), 1);
        Check.due("no steps", x.way(0, 1), 0);
        Check.due("no steps, dry", x.wets(0, 1), 0);
        Check.due("no steps, where he begins and ends is wet once", x.wets(0, 2), 1);
        Check.due("on the 60th, too", x.wets(0, 60), 1);
        Check.due("past a wet cell, south first", x.wayAt(1, 2, 0) * 10 + x.wayAt(1, 2, 1), 23);
        GargoyleClose rain = made(SMALL, LION, "canon c l vexed 1 every 1", "walker w from 0 to 3", "walker y from 3 to 0");
        Check.due("out of the wet", rain.wayAt(0, 1, 0) * 10 + rain.wayAt(0, 1, 1), 12);
        Check.due("into the wet", rain.wayAt(1, 1, 0) * 10 + rain.wayAt(1, 1, 1), 3);
        Check.due("where he begins is wet", rain.wets(0, 1), 1);
        Check.due("where he ends is wet", rain.wets(1, 1), 1);
        GargoyleClose shut = made(SMALL, "wall 1", "wall 2", LION, "walker w from 0 to 3");
        Check.due("no way, wets", shut.wets(0, 1), -2);
        Check.due("no way, steps", shut.way(0, 1), -2);
        Check.due("no trouble", shut.trouble(), 0);
        Check.refused(shut, "wayAt without a way", shut.wayAt(0, 1, 0), 1);
        GargoyleClose none = made(SMALL, LION);
        Check.refused(none, "no walkers", none.way(0, 1), 1);
    }

    /** Of like ways the first row by steps: north, east, south, west. */
    private static void rowsOfSteps() {
        int[][] due = {{0, 3, 1, 2}, {3, 0, 0, 3}, {2, 1, 0, 1}, {1, 2, 2, 3}};
        for (int[] row : due) {
            GargoyleClose x = made(SMALL, LION, "walker w from " + row[0] + " to " + row[1]);
            Check.due("from " + row[0] + ", steps", x.way(0, 1), 2);
            Check.due("from " + row[0] + ", first", x.wayAt(0, 1, 0), row[2]);
            Check.due("from " + row[0] + ", second", x.wayAt(0, 1, 1), row[3]);
        }
        // 6 is a step from 3 and 7 alone, which are wet
        GargoyleClose x = made("close wide 3 deep 3 calm 0", "face b lion holds 1 wears 0 at 3", "face d lion holds 1 wears 0 at 7",
            "walker w from 4 to 6");
        Check.due("all dry: south, then west", x.wayAt(0, 1, 0) * 10 + x.wayAt(0, 1, 1), 23);
        x.vex(0, 1);
        x.vex(1, 1);
        Check.due("one must be wet", x.wets(0, 1), 1);
        Check.due("then the shortest", x.way(0, 1), 2);
        Check.due("then the first row", x.wayAt(0, 1, 0), 2);
        Check.due("dry on the day behind it", x.wets(0, 2), 0);
        Check.due("dry again", x.dryDay(0), 2);
    }

    private static void dryDay() {
        GargoyleClose x = made(SMALL, LION, "walker v from 0 to 1", "walker w from 1 to 0", "walker y from 1 to 2");
        Check.bounds(x, "dryDay(w)", 0, 2, 1, x::dryDay);
        Check.due("tomorrow", x.dryDay(0), 1);
        x.vex(0, 59);
        Check.due("wet where he begins, until the 60th", x.dryDay(0), 60);
        Check.due("wet where he ends, until the 60th", x.dryDay(1), 60);
        Check.due("past it", x.dryDay(2), 1);
        x.vex(0, 1);
        Check.due("until the 61st", x.dryDay(0), -2);
        Check.due("no trouble", x.trouble(), 0);
        GargoyleClose shut = made(SMALL, "wall 1", "wall 2", LION, "walker w from 0 to 3");
        Check.due("no way", shut.dryDay(0), -2);
    }

    private static void gate() {
        Check.due("no walls", made(SMALL, LION, "walker w from 0 to 3").gate(), -2);
        Check.due("the first cell of all", made(SMALL, "wall 0", LION, "walker w from 1 to 2").gate(), 0);
        Check.due("the last cell of all", made(SMALL, "wall 3", LION, "walker w from 1 to 2").gate(), 3);
        Check.due("one wall, which is in no way", made(SMALL, "wall 2", LION, "walker w from 0 to 1").gate(), 2);
        Check.due("no walkers: all are alike", made(SMALL, "wall 2", "wall 1", LION).gate(), 1);
        Check.due("of like ones the first", made(SMALL, "wall 2", "wall 1", LION, "walker w from 0 to 3").gate(), 1);
        GargoyleClose x = made("close wide 5 deep 4 calm 0", "wall 19", "wall 18", "wall 13", "wall 8", "wall 3", LION,
            "walker w from 0 to 4");
        Check.due("the straight one of five", x.gate(), 3);
        // by 13 there are 6, 4, and 4 steps, by 18 4, 6, and 6, by others more
        GargoyleClose three = made("close wide 5 deep 4 calm 0", "wall 3", "wall 8", "wall 13", "wall 18", LION,
            "walker v from 15 to 19", "walker w from 10 to 14", "walker y from 14 to 10");
        Check.due("the fewest together", three.gate(), 13);
        // by 1 he from 0 gets out, by 5 and by 7 he from 8 does: 2 steps, and 60 for the other
        GargoyleClose sixty = made("close wide 3 deep 3 calm 0", "wall 1", "wall 3", "wall 5", "wall 7", LION,
            "walker v from 0 to 2", "walker w from 8 to 4", "walker y from 4 to 4");
        Check.due("60 and 2 each: the first cell", sixty.gate(), 1);
        Check.due("no trouble", sixty.trouble(), 0);
    }

    // ---- unsure canons

    private static String[] four(String... more) {
        String[] lines = new String[13 + more.length];
        lines[0] = "close wide 5 deep 4 calm 0";
        for (int i = 0; i < 4; i++) {
            char name = (char) ('a' + i);
            lines[1 + i] = "face f" + name + " bat holds 6 wears 0 at " + i;
            lines[5 + i] = "canon c" + name + " f" + name + " vexed 2 every 1";
            lines[9 + i] = "unsure c" + name + " 3";
        }
        System.arraycopy(more, 0, lines, 13, more.length);
        return lines;
    }

    private static void fits() {
        GargoyleClose all = made(four());
        Check.due("nothing dropped: all sets", all.fits(), 16);
        Check.bounds(all, "fitAt(i)", 0, 15, 1, all::fitAt);
        for (int i = 0; i < 16; i++) Check.due("the i-th of all, " + i, all.fitAt(i), i);
        GargoyleClose one = made(four("dropped fa day 3", "dropped fb day 2", "dropped fc day 3", "dropped fd day 2"));
        Check.due("one set", one.fits(), 1);
        Check.bounds(one, "fitAt(i) of one", 0, 0, 1, one::fitAt);
        Check.due("it", one.fitAt(0), 2 | 8);
        GargoyleClose none = made(four("dropped fa day 4"));
        Check.due("none", none.fits(), 0);
        Check.refused(none, "fitAt(0) of none", none.fitAt(0), 1);
        Check.due("nobody unsure, nothing dropped: the empty set", made(SMALL, LION).fits(), 1);
        Check.due("which is", made(SMALL, LION).fitAt(0), 0);
        Check.due("one that no canon has", made(SMALL, LION, "dropped l day 1").fits(), 0);
        GargoyleClose alike = made(SMALL, LION, "canon c l vexed 1 every 1", "unsure c 1", "dropped l day 1");
        Check.due("otherwise as vexed: both sets", alike.fits(), 2);
    }

    private static void setsAsBits() {
        GargoyleClose all = made(four());
        Check.due("all could", all.could(), 15);
        Check.due("none surely", all.surely(), 0);
        GargoyleClose some = made(four("dropped fa day 2", "dropped fd day 3"));
        Check.due("sets", some.fits(), 4);
        Check.due("the first", some.fitAt(0), 1);
        Check.due("the last", some.fitAt(3), 7);
        Check.due("could", some.could(), 7);
        Check.due("surely", some.surely(), 1);
        GargoyleClose one = made(four("dropped fa day 3", "dropped fb day 2", "dropped fc day 3", "dropped fd day 2"));
        Check.due("could, of one set", one.could(), 2 | 8);
        Check.due("surely, of one set", one.surely(), 2 | 8);
        GargoyleClose none = made(four("dropped fa day 1"));
        Check.due("could without a set", none.could(), 0);
        Check.due("surely without a set", none.surely(), 0);
        Check.due("no trouble", none.trouble(), 0);
        GargoyleClose sure = made(SMALL, LION);
        Check.due("nobody unsure could", sure.could(), 0);
        Check.due("nobody unsure surely", sure.surely(), 0);
    }

    private static void ask() {
        GargoyleClose all = made(four());
        Check.due("of like ones the first", all.ask(), 0);
        Check.due("half are left", all.askLeaves(), 8);
        GargoyleClose some = made(four("dropped fa day 2", "dropped fb day 3"));
        Check.due("not of whom all is known", some.ask(), 2);
        Check.due("two of four are left", some.askLeaves(), 2);
        GargoyleClose one = made(four("dropped fa day 2", "dropped fb day 2", "dropped fc day 2", "dropped fd day 2"));
        Check.due("one set: the first", one.ask(), 0);
        Check.due("it is left", one.askLeaves(), 1);
        GargoyleClose none = made(four("dropped fa day 1"));
        Check.due("no fits", none.ask(), -2);
        Check.due("no fits, left", none.askLeaves(), -2);
        GargoyleClose sure = made(SMALL, LION);
        Check.due("nobody unsure", sure.ask(), -2);
        Check.due("nobody unsure, left", sure.askLeaves(), -2);
        Check.due("no trouble", sure.trouble(), 0);
    }

    private static void judge() {
        Check.due("nothing dropped", made(four()).judge(), -2);
        Check.due("on that day", made(four("dropped fa day 3")).judge(), -2);
        Check.due("a day ahead", made(four("dropped fa day 2")).judge(), 0);
        Check.due("again, but not first", made(four("dropped fb day 6")).judge(), 1);
        Check.due("by numbers, not as told", made(four("dropped fd day 1", "dropped fb day 1")).judge(), 1);
        Check.due("one that no canon has", made(SMALL, LION, "dropped l day 40").judge(), 0);
        Check.due("on the 40th", made(SMALL, "face b bat holds 40 wears 0 at 0", "canon c b vexed 1 every 1", "dropped b day 40").judge(), -2);
        Check.due("on the 41st", made(SMALL, "face b bat holds 41 wears 0 at 0", "canon c b vexed 1 every 1", "dropped b day 40").judge(), 0);
        Check.due("on the 39th", made(SMALL, "face b bat holds 39 wears 0 at 0", "canon c b vexed 1 every 1", "dropped b day 40").judge(), 0);
        Check.due("the first day is 1: every 2 is on the second", made(SMALL, LION, "canon c l vexed 1 every 2", "dropped l day 2").judge(), -2);
        GargoyleClose acts = made(four("dropped fa day 3"));
        acts.vex(0, 99);
        acts.day();
        acts.mend(0);
        Check.due("acts don't change the beginning", acts.judge(), -2);
        Check.due("nor sets", acts.fits(), 8);
    }

    // ---- canon and bread

    private static void sulks() {
        GargoyleClose x = made(SMALL, LION);
        for (int i = 0; i < 8; i++) {
            boolean sulk = (i & 1) != 0;
            boolean burnt = (i & 2) != 0;
            boolean ofBread = (i & 4) != 0;
            Check.bounds(x, "sulks, " + i, 0, 9, 2, -100, ears -> x.sulks(ears, sulk, burnt, ofBread));
        }
        Check.due("the least that he can have", x.sulks(9, true, false, false), -9);
        Check.due("no ears, sulking, burnt", x.sulks(0, true, true, false), 3);
        Check.due("no ears, sulking, not burnt", x.sulks(0, true, false, false), 0);
        Check.due("nine ears, sulking, burnt", x.sulks(9, true, true, false), -6);
        Check.due("ears are nothing to who doesn't sulk", x.sulks(9, false, false, false), 2);
        Check.due("nor to bread", x.sulks(9, true, false, true), 2);
    }

    private static void rests() {
        GargoyleClose x = made(SMALL, LION);
        Check.bounds(x, "rests", 0, 9, 2, x::rests);
        Check.bounds(x, "rest", 0, 9, 2, x::rest);
        Check.due("two ears: he had rather sulk", x.rests(2), 0);
        Check.due("two ears: none", x.rest(2), -2);
        Check.due("no trouble", x.trouble(), 0);
        Check.due("three ears: as much", x.rests(3), 1);
        Check.due("three ears: not sulking, burnt", x.rest(3), 1);
        Check.due("nine ears", x.rest(9), 1);
        Check.due("no ears", x.rest(0), -2);
    }

    // ---- calm days

    private static GargoyleClose calm(int calm, String... more) {
        String[] lines = new String[1 + more.length];
        lines[0] = "close wide 2 deep 2 calm " + calm;
        System.arraycopy(more, 0, lines, 1, more.length);
        return made(lines);
    }

    private static void odds() {
        String seven = "face b bat holds 7 wears 0 at 0";
        GargoyleClose x = calm(50, seven, "canon c b vexed 1 every 1");
        Check.bounds(x, "odds(f, 0)", 0, 0, 1, f -> x.odds(f, 0, false));
        Check.bounds(x, "odds(0, n)", 0, 7, 2, n -> x.odds(0, n, true));
        Check.refused(x, "odds(1, 8)", x.odds(1, 8, true), 1);
        Check.fraction("in none", x.odds(0, 0, false), x.odds(0, 0, true), 0, 1);
        Check.fraction("in six", x.odds(0, 6, false), x.odds(0, 6, true), 0, 1);
        Check.fraction("in seven", x.odds(0, 7, false), x.odds(0, 7, true), 1, 128);
        x.vex(0, 7);
        Check.fraction("in none, though it bears enough", x.odds(0, 0, false), x.odds(0, 0, true), 0, 1);
        Check.fraction("in one, it bears enough", x.odds(0, 1, false), x.odds(0, 1, true), 1, 1);
        GargoyleClose never = calm(0, seven, "canon c b vexed 1 every 1");
        Check.fraction("no calm, six", never.odds(0, 6, false), never.odds(0, 6, true), 0, 1);
        Check.fraction("no calm, seven", never.odds(0, 7, false), never.odds(0, 7, true), 1, 1);
        GargoyleClose always = calm(100, seven, "canon c b vexed 30 every 1");
        Check.fraction("always calm", always.odds(0, 7, false), always.odds(0, 7, true), 0, 1);
        GargoyleClose rare = calm(99, seven, "canon c b vexed 1 every 1");
        Check.fraction("one of a hundred, seven times", rare.odds(0, 7, false), rare.odds(0, 7, true), 1, 100_000_000_000_000L);
        GargoyleClose often = calm(1, seven, "canon c b vexed 1 every 1");
        Check.fraction("99 of a hundred, seven times", often.odds(0, 7, false), often.odds(0, 7, true), 93_206_534_790_699L, 100_000_000_000_000L);
        GargoyleClose lowest = calm(40, LION, "canon c l vexed 1 every 1");
        Check.fraction("in lowest terms", lowest.odds(0, 1, false), lowest.odds(0, 1, true), 3, 5);
        Check.fraction("in lowest terms, twice", lowest.odds(0, 2, false), lowest.odds(0, 2, true), 21, 25);
        GargoyleClose fallen = calm(50, PIG, "canon c p vexed 10 every 1");
        fallen.day();
        Check.fraction("one that has fallen", fallen.odds(0, 7, false), fallen.odds(0, 7, true), 0, 1);
        GargoyleClose number = calm(50, LION, "canon c l vexed 1 every 2");
        Check.fraction("a day's number stays what it is", number.odds(0, 1, false), number.odds(0, 1, true), 0, 1);
        number.day();
        Check.fraction("from the first day on", number.odds(0, 1, false), number.odds(0, 1, true), 1, 2);
    }

    private static void mean() {
        String large = "face b bat holds 99 wears 0 at 0";
        GargoyleClose x = calm(50, large, "canon c b vexed 1 every 1");
        Check.bounds(x, "mean(f, 0)", 0, 0, 1, f -> x.mean(f, 0, false));
        Check.bounds(x, "mean(0, n)", 0, 7, 2, n -> x.mean(0, n, true));
        Check.refused(x, "mean(1, 8)", x.mean(1, 8, true), 1);
        Check.fraction("behind none", x.mean(0, 0, false), x.mean(0, 0, true), 0, 1);
        Check.fraction("behind seven", x.mean(0, 7, false), x.mean(0, 7, true), 7, 2);
        Check.fraction("behind six, a whole", x.mean(0, 6, false), x.mean(0, 6, true), 3, 1);
        x.vex(0, 5);
        Check.fraction("behind none, what it bears", x.mean(0, 0, false), x.mean(0, 0, true), 5, 1);
        GargoyleClose never = calm(0, large, "canon c b vexed 3 every 1");
        Check.fraction("no calm", never.mean(0, 7, false), never.mean(0, 7, true), 21, 1);
        GargoyleClose always = calm(100, large, "canon c b vexed 3 every 1");
        Check.fraction("always calm", always.mean(0, 7, false), always.mean(0, 7, true), 0, 1);
        GargoyleClose rare = calm(99, large, "canon c b vexed 13 every 1");
        Check.fraction("91 of a hundred", rare.mean(0, 7, false), rare.mean(0, 7, true), 91, 100);
        // 29 more on a day, one less on a calm one: 29 times 480, and 7 times 29 less 99 hundredths
        GargoyleClose heap = calm(99, LION, "canon c l vexed 30 every 1");
        for (int d = 1; d <= 480; d++) heap.day();
        Check.fraction("a heap", heap.mean(0, 7, false), heap.mean(0, 7, true), 139_151, 10);
    }

    /** Seed 0 becomes 74; 873 becomes 65,549, which is 12; 65,536 stays: 36 mod 100. */
    private static void borne() {
        String large = "face b bat holds 99 wears 0 at 0";
        GargoyleClose x = calm(50, large, "canon c b vexed 1 every 1");
        Check.bounds(x, "borne(f, 0, 0)", 0, 0, 1, f -> x.borne(f, 0, 0));
        Check.bounds(x, "borne(0, seed, 1)", 0, 65536, 2, seed -> x.borne(0, seed, 1));
        Check.bounds(x, "borne(0, 0, n)", 0, 60, 2, n -> x.borne(0, 0, n));
        Check.refused(x, "borne(1, 65537, 61)", x.borne(1, 65537, 61), 1);
        x.vex(0, 5);
        Check.due("behind none", x.borne(0, 7, 0), 5);
        int[][] drawn = {{0, 74}, {873, 12}, {65536, 36}};
        for (int[] row : drawn) {
            Check.due("a draw that is calm's number", calm(row[1], large, "canon c b vexed 1 every 1").borne(0, row[0], 1), 1);
            Check.due("a draw below it", calm(row[1] + 1, large, "canon c b vexed 1 every 1").borne(0, row[0], 1), 0);
        }
        Check.due("no calm", calm(0, large, "canon c b vexed 1 every 1").borne(0, 0, 60), 60);
        Check.due("always calm", calm(100, large, "canon c b vexed 1 every 1").borne(0, 0, 60), 0);
        GargoyleClose calm = calm(100, LION);
        calm.vex(0, 9);
        Check.due("it lets go on calm days, too", calm.borne(0, 0, 4), 5);
    }

    private static void firstWet() {
        GargoyleClose x = calm(37, LION, "canon c l vexed 1 every 1");
        Check.bounds(x, "firstWet(seed, 1)", 0, 65536, 2, seed -> x.firstWet(seed, 1));
        Check.bounds(x, "firstWet(0, n)", 0, 60, 2, n -> x.firstWet(0, n));
        Check.due("on the first", x.firstWet(0, 1), 1);
        Check.due("within none", x.firstWet(0, 0), -2);
        Check.due("never by 65,536", x.firstWet(65536, 60), -2);
        Check.due("no trouble", x.trouble(), 0);
        GargoyleClose sixty = calm(0, "face b bat holds 60 wears 0 at 0", "face e bat holds 99 wears 0 at 1", "canon d e vexed 1 every 1", "canon c b vexed 1 every 1");
        Check.due("on the 60th", sixty.firstWet(0, 60), 60);
        Check.due("not within 59", sixty.firstWet(0, 59), -2);
        sixty.day();
        Check.due("1 is the first of those that come", sixty.firstWet(0, 59), 59);
        Check.due("always calm", calm(100, LION, "canon c l vexed 30 every 1").firstWet(0, 60), -2);
    }

    // ---- all that there is room for

    /** Pigs of 5, 10, .. 30 that need ten days each; the canons of the first five are vexed by as much; walls in the middle. */
    private static void allFull() {
        StringBuilder s = new StringBuilder("close wide 5 deep 4 calm 50;wall 6;wall 7;wall 8;wall 11;wall 12");
        for (int i = 0; i < 6; i++) s.append(";face f").append((char) ('a' + i)).append(" pig holds ").append(5 + 5 * i).append(" wears 5 at ").append(14 + i);
        for (int i = 0; i < 5; i++) s.append(";canon c").append((char) ('a' + i)).append(" f").append((char) ('a' + i)).append(" vexed ").append(1 + i).append(" every 1");
        for (int i = 0; i < 4; i++) s.append(";walker w").append((char) ('a' + i)).append(" from ").append(i).append(" to ").append(19 - i);
        for (int i = 0; i < 4; i++) s.append(";unsure c").append((char) ('a' + i)).append(' ').append(2 + i);
        for (int i = 0; i < 5; i++) s.append(";dropped f").append((char) ('a' + i)).append(" day 10");
        GargoyleClose x = Check.made(s.toString());
        int five = 1 << 14 | 1 << 15 | 1 << 16 | 1 << 17 | 1 << 18;
        Check.due("a dry day", x.wet(9), 0);
        Check.due("five let go", x.wet(10), five);
        Check.due("the first falls", x.fallen(10), 1);
        Check.due("the heaviest", x.heaviest(), 45);
        Check.due("the wettest", x.wettest(), 18);
        Check.due("sunny", x.sunny(), 1);
        Check.due("dropsIf", x.dropsIf(4, 5, 10), 4);
        Check.due("faceFor", x.faceFor(0, 10), 5);
        Check.due("match", x.match(1), 0);
        Check.due("the sixth for the fifth", x.matchAt(4, 10), 5);
        Check.due("steps from corner to corner", x.steps(0, 19), 7);
        Check.due("the fourth walker's steps", x.way(3, 1), 7);
        Check.due("round the walls on a dry day", x.wayAt(0, 1, 0), 1);
        Check.due("where he ends isn't wet", x.wets(0, 10), 1);
        Check.due("where he ends is", x.wets(3, 10), 2);
        Check.due("the first dry day", x.dryDay(3), 1);
        Check.due("without 8 three walkers have two steps less", x.gate(), 8);
        Check.due("sets", x.fits(), 1);
        Check.due("ask", x.ask(), 0);
        Check.due("judge", x.judge(), -2);
        Check.fraction("odds", x.odds(5, 7, false), x.odds(5, 7, true), 0, 1);
        Check.fraction("mean", x.mean(4, 7, false), x.mean(4, 7, true), 35, 2);
        Check.due("borne by all draws", x.borne(5, 65536, 60), 0);
        Check.due("no wet day", x.firstWet(65536, 60), -2);
        for (int d = 1; d <= 9; d++) x.day();
        Check.due("the burden", x.burden(), 9 * (1 + 2 + 3 + 4 + 5));
        Check.due("the tenth", x.day(), five);
        Check.due("led", x.led(0), 5);
        Check.due("none more", Check.ledThrows(x, 1), true);
    }

    // ---- none of these is an act

    private static void questionsChangeNothing() {
        GargoyleClose x = Check.made(Check.PAGE);
        x.day();
        x.vex(1, 3);
        x.image();
        String was = Check.state(x);
        for (int n = -1; n <= 61; n += n == 7 ? 22 : 1) {
            x.bears(1, n);
            x.holds(1, n);
            x.drops(1, n);
            x.wet(n);
            x.wetDays(1, n);
            x.fallen(n);
            x.dropsIf(0, 3, n);
            x.faceFor(0, n);
            x.match(n);
            x.matchDrops(n);
            x.matchAt(0, n);
            x.wayAt(1, n, 0);
            x.odds(0, n, true);
            x.mean(0, n, true);
            x.borne(1, 5, n);
            x.firstWet(5, n);
            x.fitAt(n);
            x.rest(n);
        }
        x.dropsIn(0);
        x.fallsIn(0);
        x.wettest();
        x.sunny();
        x.heaviest();
        x.dryDay(0);
        x.gate();
        x.ask();
        x.judge();
        Check.same("behind questions", Check.state(x), was);
    }
}
