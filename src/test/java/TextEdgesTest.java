/**
 * Each boundary that the document names of the tape, of texts and of their faults: terms I, promises 1 to 5.
 * In a text with a fault a | stands ahead of the place that is due.
 */
public final class TextEdgesTest {
    private static final String CLOSE = "close wide 2 deep 2 calm 0";
    private static final String WIDE = "close wide 5 deep 4 calm 0";
    private static final String FACE = "face f bat holds 1 wears 0 at 0";
    private static final String CANON = "canon c f vexed 1 every 1";
    private static final String WALKER = "walker w from 1 to 2";
    private static final String[] LINE_WORDS = {"close", "wall", "face", "canon", "walker", "unsure", "dropped"};

    public static void main(String[] args) {
        tapeIsFull();
        refusedFeedLeavesBytes();
        highestFirst();
        blanks();
        everyByte();
        longWords();
        longWholes();
        semicolons();
        boundsOfClose();
        boundsOfCells();
        boundsOfFaces();
        boundsOfCanons();
        boundsOfUnsure();
        wallsFull();
        facesFull();
        canonsFull();
        walkersFull();
        unsureFull();
        droppedOnceEach();
        wordsThatAreNoNames();
        wordsThatAreNames();
        namesAheadOfUse();
        namesOfOtherSorts();
        namesToldAgain();
        onceEach();
        aheadOfClose();
        noFace();
        cellsOfWalkers();
        wallBehindWalker();
        firstFromTheLeft();
        leastOfOnePlace();
        theEnd();
        newObject();
        numbersOfClose();
        fewerBytesThanFed();
        closeStaysBehindFault();
        closeBeginsAnew();
        faultOfTheLatest();
        whereOfTheLatest();
        Check.end();
    }

    // ---- tokens

    private static void tapeIsFull() {
        GargoyleClose x = new GargoyleClose();
        Check.due("an empty tape", x.size(12), 0);
        for (int i = 1; i <= 44; i++) x.feed(0, 0, 0, 0, 0);
        Check.due("880 bytes", x.size(12), 880);
        Check.due("900 bytes have room", x.feed(0, 0, 0, 0, 0), 900);
        Check.due("920 have none", x.feed(0, 0, 0, 0, 0), -1);
        Check.due("none came", x.size(12), 900);
        Check.refused(x, "close of it", x.close(900), 4);
        Check.due("there is room again", x.feed(0, 0, 0, 0, 0), 20);
    }

    private static void refusedFeedLeavesBytes() {
        GargoyleClose x = new GargoyleClose();
        String text = CLOSE + ";" + FACE;
        Check.feed(x, " ".repeat(900 - text.length()) + text);
        Check.due("900 bytes", x.size(12), 900);
        Check.due("a feed too many", x.feed(-1, -1, -1, -1, -1), -1);
        Check.due("the text is whole, to its last byte", x.close(900), 1);
    }

    private static void highestFirst() {
        GargoyleClose x = new GargoyleClose();
        x.feed(0x636C6F73, 0x65202020, 0x77696465, 0x20320000, 0xFF000000);
        Check.refused(x, "close wide 2, then a nought", x.close(20), 4);
        Check.due("it is behind the lower half's first two", x.where(), 14);
        x.feed(0x20202020, 0x20202020, 0x20202020, 0x20202020, 0x20202080);
        Check.refused(x, "a byte of 128, the lowest", x.close(20), 4);
        Check.due("its place", x.where(), 19);
        x.feed(0x80202020, 0, 0, 0, 0);
        Check.refused(x, "a byte of 128, the highest", x.close(1), 4);
        Check.due("its place", x.where(), 0);
    }

    private static void blanks() {
        fine(" " + CLOSE + " ; " + FACE + " ", 1);
        fine("close    wide 2deep 2calm 0;face f bat holds 1wears 0at 0", 1);
        fine("close wide2deep2calm0;face f bat holds1wears0at0", 1);
        fault(1, "|closewide 2 deep 2 calm 0");
        fault(1, "close wide 2 |2 deep 2 calm 0");
        fault(1, "close |wi de 2 deep 2 calm 0");
    }

    /** Behind a whole text, and in the place of a name: blanks, letters, and ; have their use, all others begin no token. */
    private static void everyByte() {
        String whole = CLOSE + ";" + FACE + " ";
        for (int b = 0; b < 256; b++) {
            char sign = (char) b;
            boolean letter = sign >= 'a' && sign <= 'z';
            if (sign == ' ') {
                fine(whole + sign, 1);
            } else {
                faultAt(1, whole.length() + (sign == ';' ? 1 : 0), whole + sign);
            }
            String named = CLOSE + ";face " + sign + " bat holds 1 wears 0 at 0";
            if (letter) {
                fine(named, 1);
            } else if (sign != ' ') {
                faultAt(1, CLOSE.length() + 6, named);
            }
        }
    }

    private static void longWords() {
        fine(CLOSE + ";face z bat holds 1 wears 0 at 0", 1);
        fine(CLOSE + ";face zzzzzzzz bat holds 1 wears 0 at 0", 1);
        fault(1, CLOSE + ";face |zzzzzzzzz bat holds 1 wears 0 at 0");
        fault(1, CLOSE + ";face |zzzzzzzzz");
        fault(1, CLOSE + ";" + FACE + ";canon |abcdefghijklmnop f vexed 1 every 1");
        fine(CLOSE + ";face abcdefgh bat holds 1 wears 0 at 0;face abcdefgi bat holds 1 wears 0 at 1"
            + ";face abcdefg bat holds 1 wears 0 at 2;face bbcdefgh bat holds 1 wears 0 at 3", 4);
        for (char c = 'a'; c <= 'z'; c++) {
            fine(CLOSE + ";face " + c + " bat holds 1 wears 0 at 0;face " + c + c + " bat holds 1 wears 0 at 1;face a" + c + c + " bat holds 1 wears 0 at 2"
                + ";walker " + c + "aaaaaaa from 0 to 0;walker z" + c + "zzzzzz from 0 to 0", 3);
        }
    }

    private static void longWholes() {
        fine("close wide 02 deep 002 calm 000;face f bat holds 001 wears 000 at 003", 1);
        fault(1, "close wide |0002 deep 2 calm 0");
        fault(1, "close wide 2 deep 2 calm |0000");
        fault(4, "close wide 2 deep 2 calm |999");
        fault(1, "close wide 2 deep 2 calm |1000");
        fault(1, "close wide |12345678901234567890");
        // 2 to the 32nd and 2: a number that wraps around would be a 2
        fault(1, "close wide |4294967298 deep 2 calm 0");
    }

    private static void semicolons() {
        fault(1, "|;" + CLOSE);
        fault(1, CLOSE + ";|;" + FACE);
        fault(1, CLOSE + ";" + FACE + ";|");
        fault(1, CLOSE + ";" + FACE + ";  |");
        fault(1, CLOSE + " |" + FACE);
        fault(1, "close |; wide 2 deep 2 calm 0");
        fault(1, "close wide |; 2 deep 2 calm 0");
    }

    // ---- bounds

    private static void boundsOfClose() {
        for (int wide = 0; wide <= 7; wide++) {
            for (int deep = 0; deep <= 6; deep++) {
                String text = "close wide " + wide + " deep " + deep + " calm 0;" + FACE;
                if (wide < 2 || wide > 5) {
                    faultAt(4, 11, text);
                } else if (deep < 2 || deep > 4) {
                    faultAt(4, 18, text);
                } else {
                    fine(text, 1);
                }
            }
        }
        fine("close wide 2 deep 2 calm 0;" + FACE, 1);
        fine("close wide 2 deep 2 calm 100;" + FACE, 1);
        fault(4, "close wide 2 deep 2 calm |101;" + FACE);
    }

    private static void boundsOfCells() {
        for (int wide = 2; wide <= 5; wide++) {
            for (int deep = 2; deep <= 4; deep++) {
                String close = "close wide " + wide + " deep " + deep + " calm 0;";
                int last = wide * deep - 1;
                fine(close + "wall " + last + ";face f bat holds 1 wears 0 at " + last, 1);
                fine(close + "wall 0;face f bat holds 1 wears 0 at 0", 1);
                fine(close + FACE + ";walker w from " + last + " to " + last, 1);
                fine(close + FACE + ";walker w from 0 to 0", 1);
                int beyond = last + 1;
                fault(4, close + "wall |" + beyond);
                fault(4, close + "face f bat holds 1 wears 0 at |" + beyond);
                fault(4, close + "walker w from |" + beyond + " to 0");
                fault(4, close + "walker w from 0 to |" + beyond);
            }
        }
    }

    private static void boundsOfFaces() {
        fine(CLOSE + ";face f bat holds 1 wears 9 at 0;face g lion holds 99 wears 0 at 1;face h pig holds 99 wears 9 at 2", 3);
        fault(4, CLOSE + ";face f bat holds |0 wears 0 at 0");
        fault(4, CLOSE + ";face f bat holds |100 wears 0 at 0");
        fault(4, CLOSE + ";face f bat holds 1 wears |10 at 0");
        fault(1, CLOSE + ";face f |cat holds 1 wears 0 at 0");
        fault(1, CLOSE + ";face f |bats holds 1 wears 0 at 0");
        fault(1, CLOSE + ";face f |holds 1 wears 0 at 0");
    }

    private static void boundsOfCanons() {
        String faces = CLOSE + ";" + FACE + ";";
        fine(faces + "canon c f vexed 1 every 1", 1);
        fine(faces + "canon c f vexed 30 every 9", 1);
        fault(4, faces + "canon c f vexed |0 every 1");
        fault(4, faces + "canon c f vexed |31 every 1");
        fault(4, faces + "canon c f vexed 1 every |0");
        fault(4, faces + "canon c f vexed 1 every |10");
    }

    private static void boundsOfUnsure() {
        String canons = Check.lines(CLOSE, FACE, CANON) + ";";
        fine(canons + "unsure c 1;dropped f day 1", 1);
        fine(canons + "unsure c 30;dropped f day 40", 1);
        fault(4, canons + "unsure c |0");
        fault(4, canons + "unsure c |31");
        fault(4, canons + "dropped f day |0");
        fault(4, canons + "dropped f day |41");
    }

    // ---- how many there is room for

    private static String walls(int count) {
        StringBuilder s = new StringBuilder(WIDE);
        for (int i = 0; i < count; i++) s.append(";wall ").append(i);
        return s.toString();
    }

    private static String faces(int count) {
        StringBuilder s = new StringBuilder(WIDE);
        for (int i = 0; i < count; i++) s.append(";face f").append((char) ('a' + i)).append(" bat holds 1 wears 0 at ").append(i);
        return s.toString();
    }

    private static String canons(int count) {
        StringBuilder s = new StringBuilder(faces(6));
        for (int i = 0; i < count; i++) s.append(";canon c").append((char) ('a' + i)).append(" f").append((char) ('a' + i)).append(" vexed 1 every 1");
        return s.toString();
    }

    private static String walkers(int count) {
        StringBuilder s = new StringBuilder(faces(1));
        for (int i = 0; i < count; i++) s.append(";walker w").append((char) ('a' + i)).append(" from 8 to 9");
        return s.toString();
    }

    private static String unsure(int count) {
        StringBuilder s = new StringBuilder(canons(5));
        for (int i = 0; i < count; i++) s.append(";unsure c").append((char) ('a' + i)).append(" 2");
        return s.toString();
    }

    private static void wallsFull() {
        fine(walls(5) + ";" + FACE, 1);
        Check.due("five walls", Check.made(walls(5) + ";" + FACE).size(3), 5);
        fault(5, walls(5) + ";|wall 5;" + FACE);
        fault(5, walls(5) + ";|wall 4");
        fault(5, walls(5) + ";|wall 99");
        fault(5, walls(5) + ";|wall");
    }

    private static void facesFull() {
        fine(faces(6), 6);
        fault(5, faces(6) + ";|face g bat holds 1 wears 0 at 9");
        fault(5, faces(6) + ";|face fa bat holds 1 wears 0 at 9");
        fault(5, faces(6) + ";|face");
    }

    private static void canonsFull() {
        fine(canons(5), 6);
        Check.due("five canons", Check.made(canons(5)).size(5), 5);
        fault(5, canons(5) + ";|canon cf ff vexed 1 every 1");
        fault(5, canons(5) + ";|canon ca fa vexed 1 every 1");
        fault(5, canons(5) + ";|canon");
    }

    private static void walkersFull() {
        fine(walkers(4), 1);
        Check.due("four walkers", Check.made(walkers(4)).size(6), 4);
        fault(5, walkers(4) + ";|walker w from 8 to 9");
        fault(5, walkers(4) + ";|walker wa from 99 to 9");
        fault(5, walkers(4) + ";|walker");
    }

    private static void unsureFull() {
        fine(unsure(4), 6);
        Check.due("four unsure ones", Check.made(unsure(4)).size(7), 4);
        fault(5, unsure(4) + ";|unsure ce 2");
        fault(5, unsure(4) + ";|unsure ca 2");
        fault(5, unsure(4) + ";|unsure");
    }

    private static void droppedOnceEach() {
        StringBuilder s = new StringBuilder(faces(6));
        for (int i = 0; i < 6; i++) s.append(";dropped f").append((char) ('a' + i)).append(" day ").append(i + 1);
        fine(s.toString(), 6);
        Check.due("all dropped", Check.made(s.toString()).size(8), 6);
        fault(3, s + ";dropped |fa day 9");
        fault(3, s + ";dropped |ff");
    }

    // ---- names

    private static void wordsThatAreNoNames() {
        String told = Check.lines(CLOSE, FACE, CANON) + ";";
        for (String word : LINE_WORDS) {
            fault(1, told + "face |" + word + " bat holds 1 wears 0 at 1");
            fault(1, told + "canon |" + word + " f vexed 1 every 1");
            fault(1, told + "canon d |" + word + " vexed 1 every 1");
            fault(1, told + "walker |" + word + " from 0 to 0");
            fault(1, told + "unsure |" + word + " 1");
            fault(1, told + "dropped |" + word + " day 1");
        }
    }

    private static void wordsThatAreNames() {
        for (String word : new String[] {"wide", "deep", "calm", "bat", "lion", "pig", "holds", "wears", "at", "vexed",
                "every", "from", "to", "day", "closes", "walls", "clos", "wal", "x"}) {
            fine(CLOSE + ";face " + word + " bat holds 1 wears 0 at 0;canon c " + word + " vexed 1 every 1;dropped " + word + " day 1", 1);
            fine(CLOSE + ";" + FACE + ";canon " + word + " f vexed 1 every 1;unsure " + word + " 1", 1);
            fine(CLOSE + ";" + FACE + ";walker " + word + " from 0 to 0", 1);
        }
    }

    private static void namesAheadOfUse() {
        fault(2, CLOSE + ";canon c |f vexed 1 every 1;" + FACE);
        fault(2, Check.lines(CLOSE, FACE) + ";unsure |c 1;" + CANON);
        fault(2, CLOSE + ";dropped |f day 1;" + FACE);
        fault(2, Check.lines(CLOSE, FACE) + ";canon c |c vexed 1 every 1");
        fault(2, CLOSE + ";" + FACE + ";canon c |g");
    }

    private static void namesOfOtherSorts() {
        String told = Check.lines(CLOSE, FACE, CANON, WALKER) + ";";
        fault(2, told + "canon d |c vexed 1 every 1");
        fault(2, told + "canon d |w vexed 1 every 1");
        fault(2, told + "unsure |f 1");
        fault(2, told + "unsure |w 1");
        fault(2, told + "dropped |c day 1");
        fault(2, told + "dropped |w day 1");
    }

    private static void namesToldAgain() {
        String told = Check.lines(CLOSE, FACE, CANON, WALKER) + ";";
        for (String name : new String[] {"f", "c", "w"}) {
            fault(3, told + "face |" + name + " bat holds 1 wears 0 at 1");
            fault(3, told + "canon |" + name + " f vexed 1 every 1");
            fault(3, told + "walker |" + name + " from 0 to 0");
        }
    }

    private static void onceEach() {
        String told = Check.lines(CLOSE, "wall 3", FACE, CANON) + ";";
        fault(3, told + "wall |3");
        fault(3, told + "wall |003");
        fault(3, told + "face g bat holds 1 wears 0 at |0");
        fault(3, told + "canon d |f vexed 1 every 1");
        fault(3, told + "unsure c 1;unsure |c 1");
        fault(3, told + "dropped f day 1;dropped |f day 1");
        fault(3, told + "|close wide 2 deep 2 calm 0");
        fault(3, told + "|close");
        fault(3, CLOSE + ";|close wide 9");
    }

    // ---- what lacks, walls

    private static void aheadOfClose() {
        for (String word : LINE_WORDS) {
            if (!word.equals("close")) {
                fault(6, "|" + word);
                fault(6, "  |" + word + " 1");
                fault(6, "|" + word + ";" + CLOSE + ";" + FACE);
            }
        }
        fault(1, "|gate 1");
        fault(1, "|wide 2");
    }

    private static void noFace() {
        fault(6, CLOSE + "|");
        fault(6, CLOSE + ";wall 0;walker w from 1 to 2|");
        fault(6, CLOSE + "    |");
        fault(1, CLOSE + ";|");
    }

    private static void cellsOfWalkers() {
        String walls = CLOSE + ";wall 3;" + FACE + ";";
        fault(7, walls + "walker w from |3 to 0");
        fault(7, walls + "walker w from 0 to |3");
        fault(7, walls + "walker w from |003");
        fault(4, walls + "walker w from |4 to 3");
        fine(walls + "walker w from 2 to 2", 1);
    }

    private static void wallBehindWalker() {
        String told = Check.lines(CLOSE, FACE, CANON) + ";";
        fine(told + "unsure c 1;dropped f day 1;wall 3;" + WALKER, 1);
        fault(7, told + WALKER + ";|wall 3");
        fault(7, told + WALKER + ";|wall");
        fault(7, told + WALKER + ";|wall 99");
        fine(CLOSE + ";" + FACE + ";wall 0", 1);
        fine(CLOSE + ";wall 0;" + FACE, 1);
    }

    // ---- which fault, and where

    private static void firstFromTheLeft() {
        fault(4, "close wide |9 deep 9 calm 999;wall 99");
        fault(4, "close wide 2 deep |9 calm 999");
        fault(3, Check.lines(CLOSE, FACE) + ";face |f cat");
        fault(1, Check.lines(CLOSE, FACE) + ";face g |cat holds 0");
        fault(4, Check.lines(CLOSE, FACE) + ";face g bat holds |0 wears 99 at 0");
        fault(2, Check.lines(CLOSE, FACE, CANON) + ";canon d |c vexed 99");
    }

    private static void leastOfOnePlace() {
        // a sixth wall behind a walker: 5 and 7
        fault(5, walls(5) + ";walker w from 8 to 9;|wall 9");
        // the end: a LINE must come, and there is no face: 1 and 6
        fault(1, CLOSE + ";wall 1;|");
        // four digits are no WHOLE, and one of that size would be out of bounds: 1 and 4
        fault(1, CLOSE + ";wall |9999");
    }

    private static void theEnd() {
        String text = Check.lines(CLOSE, FACE, CANON, WALKER, "unsure c 2", "dropped f day 3");
        int whole = (CLOSE + ";" + FACE).length();
        for (int n = 0; n < text.length(); n++) {
            GargoyleClose x = new GargoyleClose();
            Check.feed(x, text);
            int faces = x.close(n);
            if (faces == -1) {
                Check.due("a fault of the first " + n, x.fault() > 0 && x.where() >= 0 && x.where() <= n, true);
            }
            Check.due("no close of fewer bytes than its first face takes, " + n, faces == -1 || n >= whole, true);
        }
        fault(1, "|");
        fault(1, "   |");
        fault(1, "close|");
        fault(1, "close wide|");
        fault(1, "close wide 2 deep 2 calm |");
        fault(1, CLOSE + ";face|");
        fault(1, CLOSE + ";face f|");
        fault(1, CLOSE + ";face f bat|");
        fault(1, CLOSE + ";face f bat holds 1 wears 0 at  |");
        fault(1, Check.lines(CLOSE, FACE) + ";canon c f|");
        fault(1, Check.lines(CLOSE, FACE, CANON) + ";unsure c|");
        fault(1, Check.lines(CLOSE, FACE, CANON) + ";dropped f|");
        fault(1, Check.lines(CLOSE, FACE, CANON) + ";dropped f day|");
    }

    // ---- promises 1 to 5

    private static void newObject() {
        GargoyleClose x = new GargoyleClose();
        Check.due("trouble", x.trouble(), 0);
        Check.due("fault", x.fault(), 0);
        Check.due("where", x.where(), -1);
        for (int what = 0; what <= 12; what++) Check.due("size " + what, x.size(what), 0);
        Check.refused(x, "face", x.face(0, 0), 1);
        Check.refused(x, "canon", x.canon(0, 0), 1);
        Check.refused(x, "cell", x.cell(0, 0), 1);
        Check.refused(x, "burden", x.burden(), 1);
        Check.refused(x, "bears", x.bears(0, 61), 1);
        Check.refused(x, "holds", x.holds(0, 61), 1);
        Check.refused(x, "drops", x.drops(0, 61), 1);
        Check.refused(x, "dropsIn", x.dropsIn(0), 1);
        Check.refused(x, "fallsIn", x.fallsIn(0), 1);
        Check.refused(x, "wet", x.wet(61), 1);
        Check.refused(x, "wetDays", x.wetDays(0, 61), 1);
        Check.refused(x, "wettest", x.wettest(), 1);
        Check.refused(x, "sunny", x.sunny(), 1);
        Check.refused(x, "heaviest", x.heaviest(), 1);
        Check.refused(x, "fallen", x.fallen(61), 1);
        Check.refused(x, "dropsIf", x.dropsIf(0, 0, 31), 1);
        Check.refused(x, "faceFor", x.faceFor(0, 31), 1);
        Check.refused(x, "match", x.match(31), 1);
        Check.refused(x, "matchDrops", x.matchDrops(31), 1);
        Check.refused(x, "matchAt", x.matchAt(0, 31), 1);
        Check.refused(x, "steps", x.steps(0, 0), 1);
        Check.refused(x, "wets", x.wets(0, 61), 1);
        Check.refused(x, "way", x.way(0, 61), 1);
        Check.refused(x, "wayAt", x.wayAt(0, 61, 0), 1);
        Check.refused(x, "dryDay", x.dryDay(0), 1);
        Check.refused(x, "gate", x.gate(), 1);
        Check.refused(x, "fits", x.fits(), 1);
        Check.refused(x, "fitAt", x.fitAt(0), 1);
        Check.refused(x, "could", x.could(), 1);
        Check.refused(x, "surely", x.surely(), 1);
        Check.refused(x, "ask", x.ask(), 1);
        Check.refused(x, "askLeaves", x.askLeaves(), 1);
        Check.refused(x, "judge", x.judge(), 1);
        Check.refused(x, "sulks", x.sulks(10, true, true, true), -100, 1);
        Check.refused(x, "rests", x.rests(10), 1);
        Check.refused(x, "rest", x.rest(10), 1);
        Check.refused(x, "odds", x.odds(0, 8, true), 1);
        Check.refused(x, "mean", x.mean(0, 8, true), 1);
        Check.refused(x, "borne", x.borne(0, -1, 61), 1);
        Check.refused(x, "firstWet", x.firstWet(-1, 61), 1);
        Check.refused(x, "day", x.day(), 1);
        Check.refused(x, "give", x.give(0, 0), 1);
        Check.refused(x, "mend", x.mend(0), 1);
        Check.refused(x, "vex", x.vex(0, 100), 1);
        Check.refused(x, "undo", x.undo(), 6);
        Check.refused(x, "image", x.image(), 1);
        Check.refused(x, "back", x.back(0), 1);
        Check.due("led throws", Check.ledThrows(x, 0), true);
    }

    private static void numbersOfClose() {
        String text = CLOSE + ";" + FACE + " ";
        int taped = 60;
        for (int n : new int[] {Integer.MIN_VALUE, -1, taped + 1, Integer.MAX_VALUE}) {
            GargoyleClose x = new GargoyleClose();
            Check.feed(x, text);
            Check.refused(x, "close(" + n + ")", x.close(n), 2);
            Check.due("the tape stays behind close(" + n + ")", x.size(12), taped);
            Check.due("no close behind it", x.size(4), 0);
            Check.due("all of the tape", x.close(taped), 1);
            Check.due("the tape is empty then", x.size(12), 0);
            Check.refused(x, "a second time", x.close(taped), 2);
            Check.due("the close stays", x.size(4), 1);
        }
        GargoyleClose x = new GargoyleClose();
        Check.feed(x, text);
        Check.refused(x, "close(0), an empty text", x.close(0), 4);
        Check.due("its fault", x.fault(), 1);
        Check.due("its place", x.where(), 0);
        Check.due("the tape is empty behind a fault, too", x.size(12), 0);
    }

    private static void fewerBytesThanFed() {
        GargoyleClose x = new GargoyleClose();
        String text = CLOSE + ";" + FACE;
        Check.feed(x, text + "0;face ?");
        Check.due("what is behind the n-th isn't read", x.close(text.length()), 1);
        Check.due("nor is it left", x.size(12), 0);
        Check.due("the next comes first", Check.closes(x, CLOSE + ";face g pig holds 3 wears 0 at 2"), 1);
        Check.due("a pig", x.face(0, 0), 2);
    }

    private static void closeStaysBehindFault() {
        GargoyleClose x = Check.made(Check.lines(WIDE, FACE, "face g lion holds 1 wears 0 at 19", CANON, WALKER));
        x.image();
        x.day();
        x.vex(1, 7);
        x.day();
        x.give(0, 1);
        String was = Check.state(x);
        Check.refused(x, "a fault at the last line", Check.closes(x, Check.lines(CLOSE, "face h pig holds 1 wears 0 at 3", "dropped h day 41")), 4);
        Check.same("the close behind a fault", Check.state(x), was);
        Check.due("what was done can be undone", x.undo(), true);
        Check.due("his face", x.canon(0, 0), 0);
        Check.due("an image can be gone back to", x.back(0), true);
        Check.due("no day", x.size(9), 0);
        Check.feed(x, CLOSE);
        was = Check.state(x);
        Check.refused(x, "close(41)", x.close(41), 2);
        Check.same("the close behind a number", Check.state(x), was);
    }

    private static void closeBeginsAnew() {
        String text = Check.lines(CLOSE, FACE, "face g lion holds 9 wears 3 at 1", CANON);
        GargoyleClose x = Check.made(text);
        String was = Check.state(x);
        x.vex(1, 30);
        x.day();
        x.give(0, 1);
        x.image();
        x.image();
        Check.due("the same text again", Check.closes(x, text), 2);
        Check.due("no trouble", x.trouble(), 0);
        Check.same("it is as at first", Check.state(x), was);
        Check.refused(x, "undo", x.undo(), 6);
        Check.refused(x, "back", x.back(0), 1);
        Check.due("images count from 0 again", x.image(), 0);
        Check.due("fewer of all", Check.closes(x, Check.lines(CLOSE, FACE)), 1);
        Check.refused(x, "a face that was", x.face(1, 0), 1);
        Check.refused(x, "a canon who was", x.canon(0, 0), 1);
        Check.due("no canon has it", x.face(0, 5), -2);
        Check.closes(x, Check.lines(CLOSE, "wall 3", FACE, CANON, WALKER, "unsure c 2", "dropped f day 2"));
        Check.due("a face that drops", x.judge(), 0);
        for (int i = 0; i < 2; i++) {
            Check.closes(x, Check.lines(CLOSE, FACE));
            int[] sizes = {2, 2, 0, 0, 1, 0, 0, 0, 0};
            for (int what = 0; what <= 8; what++) Check.due("size " + what + " of the least text", x.size(what), sizes[what]);
            Check.due("nothing dropped", x.judge(), -2);
        }
    }

    private static void faultOfTheLatest() {
        GargoyleClose x = new GargoyleClose();
        Check.refused(x, "close(1)", x.close(1), 2);
        Check.due("no fault yet", x.fault(), 0);
        Check.closes(x, "wall");
        Check.due("a fault", x.fault(), 6);
        Check.refused(x, "close(-1)", x.close(-1), 2);
        Check.due("it stays behind 2", x.fault(), 6);
        x.burden();
        Check.due("it stays behind other calls", x.fault(), 6);
        Check.closes(x, "close wide 1");
        Check.due("the latest one", x.fault(), 4);
        Check.closes(x, CLOSE + ";" + FACE);
        Check.due("none of a close without one", x.fault(), 0);
        Check.refused(x, "close(1)", x.close(1), 2);
        Check.due("none behind 2", x.fault(), 0);
    }

    private static void whereOfTheLatest() {
        GargoyleClose x = new GargoyleClose();
        Check.closes(x, "close wide 1");
        Check.due("where", x.where(), 11);
        x.feed(0, 0, 0, 0, 0);
        x.fault();
        x.where();
        x.size(99);
        x.trouble();
        Check.ledThrows(x, 0);
        Check.due("it stays behind calls of which no number is told", x.where(), 11);
        x.burden();
        Check.due("none behind one refused by 1", x.where(), -1);
        x.close(0);
        Check.due("where of the end", x.where(), 0);
        x.close(1);
        Check.due("none behind one refused by 2", x.where(), -1);
        Check.closes(x, CLOSE + ";" + FACE);
        Check.due("none behind a close", x.where(), -1);
        Check.closes(x, CLOSE);
        Check.due("the end", x.where(), CLOSE.length());
        x.burden();
        Check.due("none behind one that isn't refused", x.where(), -1);
    }

    private static void fine(String text, int faces) {
        GargoyleClose x = new GargoyleClose();
        Check.due("close of <" + text + ">", Check.closes(x, text), faces);
        Check.due("fault of <" + text + ">", x.fault(), 0);
    }

    private static void fault(int number, String text) {
        faultAt(number, text.indexOf('|'), text.replace("|", ""));
    }

    private static void faultAt(int number, int place, String text) {
        GargoyleClose x = new GargoyleClose();
        Check.refused(x, "close of <" + text + ">", Check.closes(x, text), 4);
        Check.due("fault of <" + text + ">", x.fault(), number);
        Check.due("where of <" + text + ">", x.where(), place);
    }
}
