/** Each boundary that the document names of acts, and of what is told: promises 46 to 55. */
public final class ActEdgesTest {
    private static final String SMALL = "close wide 2 deep 2 calm 0";
    /** a falls as soon as it lets go, b never does; e is left over. */
    private static final String THREE = Check.lines(SMALL, "face a bat holds 1 wears 9 at 0", "face b lion holds 5 wears 0 at 1",
        "face e bat holds 9 wears 4 at 2", "canon c a vexed 1 every 2", "canon d b vexed 3 every 1");

    public static void main(String[] args) {
        daysFull();
        calmIsNoActs();
        give();
        giveOfFallen();
        mend();
        mendAsTold();
        vex();
        vexFull();
        vexBeyondByDays();
        undoEmpty();
        undoFull();
        undoRing();
        undoEachAct();
        refusedActsAreNone();
        imagesFull();
        imagesStay();
        backBounds();
        backForgetsActs();
        led();
        size();
        trouble();
        troubleStays();
        Check.end();
    }

    private static GargoyleClose three() {
        return Check.made(THREE);
    }

    private static void daysFull() {
        GargoyleClose x = Check.made(Check.lines(SMALL, "face l lion holds 1 wears 0 at 3", "canon c l vexed 1 every 9"));
        for (int d = 1; d <= 998; d++) x.day();
        Check.due("998", x.size(9), 998);
        Check.due("the 999th, which nine divides", x.day(), 8);
        String was = Check.state(x);
        Check.refused(x, "a thousandth", x.day(), 3);
        Check.same("behind it", Check.state(x), was);
        Check.due("days to come are told yet", x.dropsIn(0), 9);
        Check.due("undo", x.undo(), true);
        Check.due("there is room again", x.day(), 8);
        Check.refused(x, "and none again", x.day(), 3);
    }

    private static void calmIsNoActs() {
        GargoyleClose x = Check.made(Check.lines("close wide 2 deep 2 calm 100", "face l lion holds 1 wears 0 at 0", "canon c l vexed 1 every 1"));
        Check.due("days by acts are never calm", x.day(), 1);
        Check.due("nor are days to come", x.wet(1), 1);
    }

    private static void give() {
        GargoyleClose x = three();
        Check.refused(x, "give(2, 2)", x.give(2, 2), 1);
        Check.refused(x, "give(-1, 2)", x.give(-1, 2), 1);
        Check.refused(x, "give(0, 3)", x.give(0, 3), 1);
        Check.refused(x, "give(0, -1)", x.give(0, -1), 1);
        Check.refused(x, "give(MAX, MIN)", x.give(Integer.MAX_VALUE, Integer.MIN_VALUE), 1);
        Check.refused(x, "his own", x.give(0, 0), 5);
        Check.refused(x, "another's", x.give(0, 1), 5);
        Check.due("the one that is left", x.give(0, 2), 0);
        Check.due("no trouble", x.trouble(), 0);
        Check.due("his face", x.canon(0, 0), 2);
        Check.due("which has him", x.face(2, 5), 0);
        Check.due("and the other has none", x.face(0, 5), -2);
        Check.due("to the other one", x.give(1, 0), 1);
        Check.due("and back, by the way of the third", x.give(0, 1), 2);
    }

    private static void giveOfFallen() {
        GargoyleClose x = three();
        x.vex(0, 1);
        x.vex(2, 9);
        x.day();
        Check.due("a has fallen, e has not", x.fallen(0), 1);
        Check.refused(x, "his own, which has fallen", x.give(0, 0), 5);
        Check.due("who had one that has fallen", x.give(0, 2), 0);
        Check.refused(x, "back to it", x.give(0, 0), 5);
        Check.refused(x, "to another", x.give(1, 0), 5);
        Check.due("e holds less, and goes on so", x.face(2, 1), 5);
    }

    private static void mend() {
        GargoyleClose x = three();
        Check.refused(x, "mend(-1)", x.mend(-1), 1);
        Check.refused(x, "mend(3)", x.mend(3), 1);
        Check.refused(x, "mend(MIN)", x.mend(Integer.MIN_VALUE), 1);
        Check.refused(x, "mend(MAX)", x.mend(Integer.MAX_VALUE), 1);
        x.vex(0, 1);
        Check.due("it bears enough, but hasn't let go", x.mend(0), true);
        Check.due("so it doesn't", x.day(), 0);
        x.day();
        Check.refused(x, "one that has fallen", x.mend(0), 5);
        Check.due("it stays so", x.face(0, 3), 1);
    }

    private static void mendAsTold() {
        GargoyleClose x = three();
        Check.refused(x, "as told, bears nothing", x.mend(2), 5);
        x.vex(2, 1);
        Check.due("as told, bears 1", x.mend(2), true);
        Check.due("no trouble", x.trouble(), 0);
        Check.due("bears nothing", x.face(2, 2), 0);
        Check.refused(x, "once more", x.mend(2), 5);
        x.vex(2, 9);
        x.day();
        Check.due("holds less", x.face(2, 1), 5);
        Check.due("bears nothing", x.face(2, 2), 0);
        Check.due("holds less, bears nothing", x.mend(2), true);
        Check.due("holds as told", x.face(2, 1), 9);
        Check.due("it let go once, all the same", x.face(2, 4), 1);
        Check.due("its cell is wet yet", x.cell(2, 2), 1);
    }

    private static void vex() {
        GargoyleClose x = three();
        Check.bounds(x, "vex(f, 1)", 0, 2, 1, f -> x.vex(f, 1));
        Check.bounds(x, "vex(1, much)", 1, 99, 2, much -> x.vex(1, much));
        Check.refused(x, "vex(3, 100)", x.vex(3, 100), 1);
        Check.due("what it bears then", x.vex(1, 1), 1 + 99 + 1);
        Check.due("it lets go of nothing ahead of a day", x.face(1, 4), 0);
        x.day();
        Check.refused(x, "one that has fallen", x.vex(0, 1), 5);
        Check.refused(x, "one that has fallen, by 100", x.vex(0, 100), 2);
        Check.due("it bears nothing", x.face(0, 2), 0);
    }

    private static void vexFull() {
        GargoyleClose x = three();
        for (int i = 0; i < 10; i++) x.vex(2, 99);
        Check.refused(x, "a thousand", x.vex(2, 10), 3);
        Check.due("it bears 990", x.face(2, 2), 990);
        Check.due("999", x.vex(2, 9), 999);
        Check.refused(x, "one more", x.vex(2, 1), 3);
        Check.refused(x, "a number goes ahead", x.vex(2, 0), 2);
        Check.due("another one", x.vex(1, 99), 99);
    }

    private static void vexBeyondByDays() {
        GargoyleClose x = Check.made(Check.lines(SMALL, "face l lion holds 1 wears 0 at 0", "canon c l vexed 30 every 1"));
        for (int d = 1; d <= 34; d++) x.day();
        Check.due("986", x.vex(0, 13), 999);
        x.day();
        Check.due("days have no such bound", x.face(0, 2), 999 + 29);
        Check.refused(x, "but vexing has", x.vex(0, 1), 3);
        Check.due("nor have days to come", x.bears(0, 60), 999 + 29 * 61);
    }

    private static void undoEmpty() {
        GargoyleClose x = three();
        Check.refused(x, "nothing done", x.undo(), 6);
        x.image();
        Check.refused(x, "an image is no act", x.undo(), 6);
        x.day();
        Check.due("a day", x.undo(), true);
        Check.due("no trouble", x.trouble(), 0);
        Check.refused(x, "nothing more", x.undo(), 6);
        Check.due("undone isn't an act", x.size(10), 0);
    }

    private static void undoFull() {
        for (int acts = 15; acts <= 18; acts++) {
            GargoyleClose x = three();
            for (int i = 1; i <= acts; i++) x.vex(2, 1);
            int kept = Math.min(acts, 16);
            Check.due("kept of " + acts, x.size(10), kept);
            for (int i = 1; i <= kept; i++) {
                Check.due("undo " + i + " of " + acts, x.undo(), true);
                Check.due("it bears", x.face(2, 2), acts - i);
            }
            Check.refused(x, "one more of " + acts, x.undo(), 6);
            Check.due("what stays of " + acts, x.face(2, 2), acts - kept);
        }
    }

    /** Acts and undoing in turn, more than are kept, so that what is kept goes round. */
    private static void undoRing() {
        GargoyleClose x = three();
        int[] was = new int[200];
        int depth = 0;
        int kept = 0;
        for (int turn = 0; turn < 120; turn++) {
            if (turn % 7 < 4) {
                was[depth] = x.face(2, 2);
                depth++;
                kept = Math.min(16, kept + 1);
                Check.due("vex in turn " + turn, x.vex(2, 1 + turn % 3), was[depth - 1] + 1 + turn % 3);
            } else {
                Check.due("undo in turn " + turn, x.undo(), kept > 0);
                if (kept > 0) {
                    depth--;
                    kept--;
                    Check.due("it bears in turn " + turn, x.face(2, 2), was[depth]);
                }
            }
            Check.due("kept in turn " + turn, x.size(10), kept);
        }
    }

    private static void undoEachAct() {
        GargoyleClose x = three();
        x.vex(0, 1);
        x.vex(2, 9);
        String was = Check.state(x);
        x.day();
        Check.due("one fell", x.fallen(0), 1);
        x.undo();
        Check.same("a day undone", Check.state(x), was);
        x.give(0, 2);
        x.undo();
        Check.same("a face given, undone", Check.state(x), was);
        x.mend(2);
        x.undo();
        Check.same("mending undone", Check.state(x), was);
        x.vex(1, 99);
        x.undo();
        Check.same("vexing undone", Check.state(x), was);
        x.day();
        was = Check.state(x);
        x.day();
        x.day();
        x.undo();
        x.undo();
        Check.same("two undone", Check.state(x), was);
    }

    private static void refusedActsAreNone() {
        GargoyleClose x = three();
        x.vex(0, 1);
        x.day();
        for (int i = 0; i < 10; i++) x.vex(2, 99);
        String was = Check.state(x);
        x.give(0, 0);
        x.give(0, 1);
        x.give(5, 2);
        x.mend(0);
        x.mend(7);
        x.vex(0, 1);
        x.vex(1, 0);
        x.vex(1, 100);
        x.vex(2, 10);
        x.back(0);
        x.back(-1);
        x.close(1);
        Check.same("behind acts that were refused", Check.state(x), was);
    }

    private static void imagesFull() {
        GargoyleClose x = three();
        for (int i = 0; i < 3; i++) {
            Check.due("image " + i, x.image(), i);
            Check.due("no trouble", x.trouble(), 0);
        }
        Check.refused(x, "a fourth", x.image(), 3);
        Check.due("three", x.size(11), 3);
        x.back(1);
        Check.refused(x, "a fourth, gone back", x.image(), 3);
        Check.closes(x, "wall");
        Check.refused(x, "a fourth behind a fault", x.image(), 3);
        Check.closes(x, THREE);
        Check.due("the first of a new close", x.image(), 0);
    }

    private static void imagesStay() {
        GargoyleClose x = three();
        String[] was = new String[3];
        for (int i = 0; i < 3; i++) {
            x.vex(2, 9 + i);
            x.day();
            x.image();
        }
        for (int i = 2; i >= 0; i--) {
            x.back(i);
            was[i] = Check.state(x);
        }
        Check.due("unlike ones", was[0].equals(was[1]) || was[1].equals(was[2]), false);
        for (int turn = 0; turn < 9; turn++) {
            int i = turn * 5 % 3;
            Check.due("back to " + i, x.back(i), true);
            Check.same("image " + i + " in turn " + turn, Check.state(x), was[i]);
            x.day();
            x.vex(1, 7);
            x.give(1, 2);
            x.undo();
        }
    }

    private static void backBounds() {
        GargoyleClose x = three();
        Check.refused(x, "none yet", x.back(0), 1);
        x.image();
        Check.refused(x, "back(-1)", x.back(-1), 1);
        Check.refused(x, "back(1)", x.back(1), 1);
        Check.refused(x, "back(MIN)", x.back(Integer.MIN_VALUE), 1);
        Check.refused(x, "back(MAX)", x.back(Integer.MAX_VALUE), 1);
        Check.due("back(0)", x.back(0), true);
        Check.due("no trouble", x.trouble(), 0);
        x.image();
        x.image();
        Check.due("back(2)", x.back(2), true);
        Check.refused(x, "back(3)", x.back(3), 1);
    }

    private static void backForgetsActs() {
        GargoyleClose x = three();
        x.vex(2, 1);
        x.vex(2, 1);
        x.image();
        Check.due("two acts", x.size(10), 2);
        x.back(0);
        Check.due("none to undo", x.size(10), 0);
        Check.refused(x, "undo", x.undo(), 6);
        x.vex(2, 5);
        Check.due("an act behind it", x.undo(), true);
        Check.due("as by the image", x.face(2, 2), 2);
        Check.refused(x, "no further", x.undo(), 6);
        x.vex(2, 5);
        x.back(7);
        Check.due("a refused one forgets nothing", x.size(10), 1);
    }

    private static void led() {
        GargoyleClose x = Check.made(Check.lines("close wide 5 deep 4 calm 0", "face a bat holds 1 wears 9 at 0", "face b bat holds 1 wears 9 at 1",
            "face d bat holds 1 wears 9 at 2", "canon c b vexed 1 every 1"));
        Check.due("led(0)", x.led(0), 0);
        Check.due("led(1), past one that a canon has", x.led(1), 2);
        for (int i : new int[] {Integer.MIN_VALUE, -1, 2, 3, Integer.MAX_VALUE}) {
            Check.due("led(" + i + ") throws", Check.ledThrows(x, i), true);
        }
        x.vex(0, 1);
        x.day();
        Check.due("past one that has fallen", x.led(0), 2);
        Check.due("led(1) throws", Check.ledThrows(x, 1), true);
        x.give(0, 2);
        Check.due("one that has fallen isn't led, though no canon has it", Check.ledThrows(x, 0), true);
        x.undo();
        Check.due("led again", x.led(0), 2);
        Check.closes(x, Check.lines(SMALL, "face a bat holds 1 wears 9 at 0"));
        Check.due("the one face of another close", x.led(0), 0);
        Check.due("no face of a close that was", Check.ledThrows(x, 1), true);
        Check.closes(x, Check.lines(SMALL, "face a bat holds 1 wears 9 at 0"));
        Check.due("nor of the one ahead of it", Check.ledThrows(x, 1), true);
    }

    private static void size() {
        GargoyleClose x = three();
        for (int what : new int[] {Integer.MIN_VALUE, -1, 13, Integer.MAX_VALUE}) {
            Check.due("size(" + what + ")", x.size(what), -1);
        }
        int[] sizes = {2, 2, 0, 0, 3, 2, 0, 0, 0, 0, 0, 0, 0};
        for (int what = 0; what <= 12; what++) Check.due("size(" + what + ")", x.size(what), sizes[what]);
        x.day();
        x.image();
        x.feed(0, 0, 0, 0, 0);
        for (int what = 9; what <= 11; what++) Check.due("size(" + what + ")", x.size(what), 1);
        Check.due("size(12)", x.size(12), 20);
    }

    private static void trouble() {
        GargoyleClose x = three();
        Check.due("0", x.trouble(), 0);
        x.face(9, 9);
        Check.due("1", x.trouble(), 1);
        x.wet(0);
        Check.due("2", x.trouble(), 2);
        for (int i = 0; i < 4; i++) x.image();
        Check.due("3", x.trouble(), 3);
        x.close(0);
        Check.due("4", x.trouble(), 4);
        x.mend(2);
        Check.due("5", x.trouble(), 5);
        x.undo();
        Check.due("6", x.trouble(), 6);
        x.burden();
        Check.due("0 again", x.trouble(), 0);
        x.undo();
        x.dropsIn(2);
        Check.due("an answer of -2 is no refusal", x.trouble(), 0);
    }

    private static void troubleStays() {
        GargoyleClose x = three();
        x.undo();
        for (int i = 0; i < 46; i++) x.feed(0, 0, 0, 0, 0);
        Check.due("behind feed, refused too", x.trouble(), 6);
        x.fault();
        x.where();
        x.size(0);
        x.size(99);
        x.led(0);
        Check.ledThrows(x, 9);
        x.trouble();
        Check.due("behind all of which no number is told", x.trouble(), 6);
    }
}
