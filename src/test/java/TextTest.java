/** Promises 2 to 5: the tape, texts of a close, their faults and places. */
public final class TextTest {
    private static final String CLOSE = "close wide 2 deep 2 calm 0;";
    private static final String FACE = "face f bat holds 1 wears 0 at 0";
    private static final String FULL = CLOSE + FACE + ";canon c f vexed 1 every 1;walker w from 1 to 2;";

    public static void main(String[] args) {
        fedBytes();
        numbersOfClose();
        texts();
        cutShort();
        form();
        names();
        toldAgain();
        bounds();
        many();
        lacks();
        walls();
        whatStays();
        Check.end();
    }

    private static void fedBytes() {
        GargoyleClose x = new GargoyleClose();
        for (int i = 1; i <= 45; i++) {
            Check.due("feed " + i, x.feed(0, -1, i, Integer.MIN_VALUE, Integer.MAX_VALUE), 20 * i);
        }
        Check.due("feed above 900", x.feed(1, 2, 3, 4, 5), -1);
        Check.due("bytes behind it", x.size(12), 900);
        Check.due("no trouble of feed", x.trouble(), 0);
        Check.refused(x, "close above the tape", x.close(901), 2);
        Check.due("the tape stays", x.size(12), 900);
        Check.refused(x, "close of bytes that are no tokens", x.close(900), 4);
        Check.due("the tape is empty", x.size(12), 0);
        Check.due("fault", x.fault(), 1);
        Check.due("where", x.where(), 0);
        Check.due("feed behind a fault", x.feed(0, 0, 0, 0, 0), 20);
        Check.due("trouble stays behind feed", x.trouble(), 4);
        Check.due("where stays behind feed", x.where(), 0);
    }

    private static void numbersOfClose() {
        GargoyleClose x = new GargoyleClose();
        Check.due("fault of none", x.fault(), 0);
        Check.due("where of none", x.where(), -1);
        Check.refused(x, "close(-1)", x.close(-1), 2);
        Check.refused(x, "close(1)", x.close(1), 2);
        Check.due("fault of none yet", x.fault(), 0);
        Check.refused(x, "close(0)", x.close(0), 4);
        Check.due("fault of close(0)", x.fault(), 1);
        Check.due("where of close(0)", x.where(), 0);
        Check.refused(x, "close(1) again", x.close(1), 2);
        Check.due("fault stays behind 2", x.fault(), 1);
        Check.due("where behind 2", x.where(), -1);
        Check.due("a close", Check.closes(x, CLOSE + FACE), 1);
        Check.due("its fault", x.fault(), 0);
        Check.due("its trouble", x.trouble(), 0);
    }

    private static void texts() {
        fine("ordinary", CLOSE + FACE, 1);
        fine("blanks", "   close  wide   2 deep 2 calm 0  ;  " + FACE + "   ", 1);
        fine("no blanks", "close wide2deep2calm0;face f bat holds1wears0at0;wall3", 1);
        fine("noughts ahead", "close wide 002 deep 04 calm 100;face f pig holds 099 wears 009 at 007", 1);
        fine("words as names", CLOSE + "face bat bat holds 1 wears 0 at 0;canon lion bat vexed 1 every 1;"
            + "walker vexed from 0 to 0;unsure lion 30;dropped bat day 40", 1);
        fine("names of eight", CLOSE + "face abcdefgh bat holds 1 wears 0 at 0;face abcdefgi bat holds 1 wears 0 at 1", 2);
        fine("a face over a wall", CLOSE + "wall 0;" + FACE, 1);
        fine("a wall below a face", CLOSE + FACE + ";wall 0", 1);
        fine("a wall behind an unsure canon", CLOSE + FACE + ";canon c f vexed 1 every 1;unsure c 1;wall 2", 1);
        StringBuilder full = new StringBuilder("close wide 5 deep 4 calm 100");
        for (int i = 0; i < 5; i++) full.append(";wall ").append(i);
        for (int i = 0; i < 6; i++) full.append(";face f").append((char) ('a' + i)).append(" pig holds 99 wears 9 at ").append(19 - i);
        for (int i = 0; i < 5; i++) full.append(";canon c").append((char) ('a' + i)).append(" f").append((char) ('a' + i)).append(" vexed 30 every 9");
        for (int i = 0; i < 4; i++) full.append(";walker w").append((char) ('a' + i)).append(" from 19 to ").append(5 + i);
        for (int i = 0; i < 4; i++) full.append(";unsure c").append((char) ('a' + i)).append(" 30");
        for (int i = 0; i < 6; i++) full.append(";dropped f").append((char) ('a' + i)).append(" day 40");
        fine("all that there is room for", full.toString(), 6);
        GargoyleClose x = Check.made(full.toString());
        int[] sizes = {5, 4, 100, 5, 6, 5, 4, 4, 6, 0, 0, 0, 0};
        for (int what = 0; what < 13; what++) Check.due("size " + what, x.size(what), sizes[what]);
    }

    /** Bytes behind the n-th are not read, though they would go on with the last token. */
    private static void cutShort() {
        GargoyleClose x = new GargoyleClose();
        String text = "close wide 2 deep 2 calm 0;face fun bat holds 1 wears 0 at 0";
        Check.feed(x, text + "999 more");
        Check.due("a whole that is cut", x.close(text.length()), 1);
        Check.feed(x, "closed");
        Check.refused(x, "a word that is cut", x.close(5), 4);
        Check.due("its fault is at the end", x.fault(), 1);
        Check.due("the end", x.where(), 5);
        Check.feed(x, text + ";face funny");
        Check.refused(x, "a name that is cut", x.close(text.length() + 9), 4);
        Check.due("it is told again", x.fault(), 3);
    }

    private static void form() {
        fault("", 1, 0);
        fault("   ", 1, 3);
        fault("clos", 1, 0);
        fault("closed wide 2", 1, 0);
        fault("closewide 2 deep 2 calm 0", 1, 0);
        fault("Close", 1, 0);
        fault(";", 1, 0);
        fault("7", 1, 0);
        fault("close", 1, 5);
        fault("close  ", 1, 7);
        fault("close deep", 1, 6);
        fault("close wide wide", 1, 11);
        fault("close wide 2 deep 2", 1, 19);
        fault("close wide 2 deep 2 calm 0 0", 1, 27);
        fault("close wide 2 deep 2 calm 0;", 1, 27);
        fault("close wide 2 deep 2 calm 0;;", 1, 27);
        fault("close wide 2 deep 2 calm 0;bell", 1, 27);
        fault("close wide 2\tdeep", 1, 12);
        fault("close wide 2 deep 2 calm 0" + (char) 233, 1, 26);
        fault("close wide 0002", 1, 11);
        fault("close wide 2 deep 2 calm 1000", 1, 25);
        fault(CLOSE + "face abcdefghi", 1, 32);
        fault(CLOSE + "face 1", 1, 32);
        fault(CLOSE + "face wall", 1, 32);
        fault(CLOSE + "face dropped", 1, 32);
        fault(CLOSE + "face f", 1, 33);
        fault(CLOSE + "face f cat", 1, 34);
        fault(CLOSE + "face f bat hold", 1, 38);
        fault(CLOSE + "face f bat holds 1 wears 0 at;", 1, 56);
        fault(CLOSE + FACE + ";canon c face", 1, 67);
        fault(CLOSE + FACE + ";canon c 5", 1, 67);
        fault(FULL + "unsure close", 1, 113);
        fault(FULL + "unsure c day", 1, 115);
        fault(FULL + "dropped f 3", 1, 116);
        fault(FULL + "dropped walker", 1, 114);
        fault(FULL, 1, 106);
    }

    private static void names() {
        fault(CLOSE + "canon c f", 2, 35);
        fault(CLOSE + FACE + ";canon c g", 2, 67);
        fault(CLOSE + FACE + ";canon c c", 2, 67);
        fault(FULL + "canon d w", 2, 114);
        fault(FULL + "unsure f", 2, 113);
        fault(FULL + "unsure q", 2, 113);
        fault(FULL + "dropped c", 2, 114);
        fault(FULL + "dropped w", 2, 114);
        fault(CLOSE + "dropped f day 1;" + FACE, 2, 35);
    }

    private static void toldAgain() {
        fault(CLOSE + "close", 3, 27);
        fault(CLOSE + FACE + ";close wide 2 deep 2 calm 0", 3, 59);
        fault(CLOSE + "wall 3;wall 3", 3, 39);
        fault(FULL + "face f", 3, 111);
        fault(FULL + "face c", 3, 111);
        fault(FULL + "canon w", 3, 112);
        fault(FULL + "walker f", 3, 113);
        fault(FULL + "face g pig holds 1 wears 0 at 0", 3, 136);
        fault(FULL + "canon d f", 3, 114);
        fault(FULL + "unsure c 1;unsure c", 3, 124);
        fault(FULL + "dropped f day 1;dropped f", 3, 130);
    }

    private static void bounds() {
        fault("close wide 1", 4, 11);
        fault("close wide 6", 4, 11);
        fault("close wide 5 deep 1", 4, 18);
        fault("close wide 5 deep 5", 4, 18);
        fault("close wide 5 deep 4 calm 101", 4, 25);
        fault(CLOSE + "wall 4", 4, 32);
        fault(CLOSE + "face f bat holds 0", 4, 44);
        fault(CLOSE + "face f bat holds 100", 4, 44);
        fault(CLOSE + "face f bat holds 9 wears 10", 4, 52);
        fault(CLOSE + "face f bat holds 9 wears 9 at 4", 4, 57);
        fault(CLOSE + FACE + ";canon c f vexed 0", 4, 75);
        fault(CLOSE + FACE + ";canon c f vexed 31", 4, 75);
        fault(CLOSE + FACE + ";canon c f vexed 30 every 0", 4, 84);
        fault(CLOSE + FACE + ";canon c f vexed 30 every 10", 4, 84);
        fault(CLOSE + FACE + ";walker w from 4", 4, 73);
        fault(CLOSE + FACE + ";walker w from 3 to 4", 4, 78);
        fault(FULL + "unsure c 0", 4, 115);
        fault(FULL + "unsure c 31", 4, 115);
        fault(FULL + "dropped f day 0", 4, 120);
        fault(FULL + "dropped f day 41", 4, 120);
    }

    private static void many() {
        String wide = "close wide 5 deep 4 calm 0;";
        String walls = wide + "wall 0;wall 1;wall 2;wall 3;wall 4;";
        fault(walls + "wall 4", 5, walls.length());
        fault(walls + "walker w from 9 to 9;wall", 5, walls.length() + 21);
        StringBuilder faces = new StringBuilder(wide);
        for (int i = 0; i < 6; i++) faces.append("face f").append((char) ('a' + i)).append(" bat holds 1 wears 1 at ").append(i).append(';');
        fault(faces + "face fa", 5, faces.length());
        StringBuilder canons = new StringBuilder(faces);
        for (int i = 0; i < 5; i++) canons.append("canon c").append((char) ('a' + i)).append(" f").append((char) ('a' + i)).append(" vexed 1 every 1;");
        fault(canons + "canon cf ff vexed 1 every 1", 5, canons.length());
        StringBuilder unsure = new StringBuilder(canons);
        for (int i = 0; i < 4; i++) unsure.append("unsure c").append((char) ('a' + i)).append(" 1;");
        fault(unsure + "unsure ce 1", 5, unsure.length());
        StringBuilder walkers = new StringBuilder(wide);
        for (int i = 0; i < 4; i++) walkers.append("walker w").append((char) ('a' + i)).append(" from 1 to 1;");
        fault(walkers + "walker we from 1 to 1", 5, walkers.length());
    }

    private static void lacks() {
        fault("wall", 6, 0);
        fault("  face f", 6, 2);
        fault("dropped", 6, 0);
        fault("close wide 2 deep 2 calm 0", 6, 26);
        fault("close wide 2 deep 2 calm 0  ", 6, 28);
        fault(CLOSE + "wall 1;walker w from 0 to 0", 6, 54);
    }

    private static void walls() {
        fault(CLOSE + "wall 3;walker w from 3 to 0", 7, 48);
        fault(CLOSE + "wall 3;walker w from 0 to 3", 7, 53);
        fault(FULL + "wall 3", 7, 106);
        fault(FULL + "wall", 7, 106);
    }

    private static void whatStays() {
        GargoyleClose x = Check.made(FULL.substring(0, FULL.length() - 1));
        x.image();
        x.day();
        Check.refused(x, "a close with a fault", Check.closes(x, "wall"), 4);
        Check.due("its images stay", x.size(11), 1);
        Check.due("its acts stay", x.size(10), 1);
        Check.due("its days stay", x.size(9), 1);
        Check.due("its canons stay", x.size(5), 1);
        Check.due("where", x.where(), 0);
        x.burden();
        Check.due("where behind another call", x.where(), -1);
        Check.due("fault stays", x.fault(), 6);
        Check.due("a new close", Check.closes(x, CLOSE + FACE), 1);
        int[] sizes = {2, 2, 0, 0, 1, 0, 0, 0, 0, 0, 0, 0, 0, -1};
        for (int what = 0; what < sizes.length; what++) Check.due("size " + what + " of it", x.size(what), sizes[what]);
        Check.due("fault of it", x.fault(), 0);
    }

    private static void fine(String what, String text, int faces) {
        GargoyleClose x = new GargoyleClose();
        Check.due("close, " + what, Check.closes(x, text), faces);
        Check.due("fault, " + what, x.fault(), 0);
        Check.due("where, " + what, x.where(), -1);
        Check.due("trouble, " + what, x.trouble(), 0);
    }

    private static void fault(String text, int number, int place) {
        GargoyleClose x = new GargoyleClose();
        Check.refused(x, "close of <" + text + ">", Check.closes(x, text), 4);
        Check.due("fault of <" + text + ">", x.fault(), number);
        Check.due("where of <" + text + ">", x.where(), place);
    }
}
