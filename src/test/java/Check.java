import java.nio.charset.StandardCharsets;
import java.util.NoSuchElementException;
import java.util.function.IntToLongFunction;

/** What the tests share: counting wrong answers, and feeding texts. */
public final class Check {
    /** A close with something of each sort, the one that the runs under ../shared/tests begin with. */
    public static final String PAGE = lines("close wide 3 deep 3 calm 50", "wall 4", "face ann bat holds 10 wears 3 at 1",
        "face bob lion holds 6 wears 0 at 3", "face cob pig holds 4 wears 4 at 5", "face dun bat holds 50 wears 1 at 8",
        "canon abe ann vexed 4 every 1", "canon ben bob vexed 9 every 2", "canon col cob vexed 3 every 1",
        "walker wil from 0 to 2", "walker joe from 6 to 2", "unsure abe 5", "unsure col 2", "dropped ann day 3", "dropped cob day 3");

    private static int looked = 0;
    private static int wrong = 0;

    private Check() { }

    public static void due(String what, long got, long want) {
        looked++;
        if (got != want) {
            wrong++;
            System.out.println(what + " answered " + got + ", due is " + want);
        }
    }

    public static void due(String what, boolean got, boolean want) {
        due(what, got ? 1 : 0, want ? 1 : 0);
    }

    /** Ends the test's program, with exit code 1 if an answer was wrong. */
    public static void end() {
        System.out.println(looked + " answers looked at, " + wrong + " wrong");
        if (wrong != 0 || looked == 0) {
            System.exit(1);
        }
    }

    /** A text's bytes as the numbers of feed, blanks behind it up to a multiple of 20. */
    public static int[] words(String text) {
        byte[] bytes = text.getBytes(StandardCharsets.ISO_8859_1);
        int[] words = new int[(bytes.length + 19) / 20 * 5];
        for (int i = 0; i < words.length * 4; i++) {
            int b = i < bytes.length ? bytes[i] & 255 : 32;
            words[i / 4] = words[i / 4] << 8 | b;
        }
        return words;
    }

    public static void feed(GargoyleClose x, String text) {
        int[] w = words(text);
        for (int i = 0; i < w.length; i += 5) {
            x.feed(w[i], w[i + 1], w[i + 2], w[i + 3], w[i + 4]);
        }
    }

    public static int closes(GargoyleClose x, String text) {
        feed(x, text);
        return x.close(text.length());
    }

    /** A new object with the close of a text that has no fault. */
    public static GargoyleClose made(String text) {
        GargoyleClose x = new GargoyleClose();
        int faces = closes(x, text);
        if (faces < 1) {
            due("close of " + text + ", fault " + x.fault() + " at " + x.where(), faces, 1);
        }
        return x;
    }

    /** Whether led(i) throws what it must. */
    public static boolean ledThrows(GargoyleClose x, int i) {
        try {
            x.led(i);
            return false;
        } catch (NoSuchElementException e) {
            return true;
        }
    }

    /** Looks at the answer of a call that was refused, and at its trouble. */
    public static void refused(GargoyleClose x, String what, long got, long want, int trouble) {
        due(what, got, want);
        due("trouble() behind " + what, x.trouble(), trouble);
    }

    public static void refused(GargoyleClose x, String what, long got, int trouble) {
        refused(x, what, got, -1, trouble);
    }

    public static void refused(GargoyleClose x, String what, boolean got, int trouble) {
        refused(x, what, got ? 1 : 0, 0, trouble);
    }

    /** A call takes a number from least to most; any other is refused with this trouble, by this answer. */
    public static void bounds(GargoyleClose x, String what, int least, int most, int trouble, long no, IntToLongFunction call) {
        for (int good : new int[] {least, most}) {
            long got = call.applyAsLong(good);
            due("trouble() behind " + what + " with " + good + ", which answered " + got, x.trouble(), 0);
        }
        for (int bad : new int[] {Integer.MIN_VALUE, least - 1, most + 1, Integer.MAX_VALUE}) {
            refused(x, what + " with " + bad, call.applyAsLong(bad), no, trouble);
        }
    }

    public static void bounds(GargoyleClose x, String what, int least, int most, int trouble, IntToLongFunction call) {
        bounds(x, what, least, most, trouble, -1, call);
    }

    public static void fraction(String what, long gotUpper, long gotLower, long upper, long lower) {
        due(what + ", upper", gotUpper, upper);
        due(what + ", lower", gotLower, lower);
    }

    /** The lines of a close as its text. */
    public static String lines(String... lines) {
        return String.join(";", lines);
    }

    /** All that acts change, and all that stays while they do, as a text to compare. */
    public static String state(GargoyleClose x) {
        StringBuilder s = new StringBuilder();
        for (int what = 0; what <= 12; what++) s.append(x.size(what)).append(' ');
        for (int f = 0; f < x.size(4); f++) {
            for (int what = 0; what <= 6; what++) s.append(x.face(f, what)).append(' ');
        }
        for (int c = 0; c < x.size(5); c++) {
            for (int what = 0; what <= 2; what++) s.append(x.canon(c, what)).append(' ');
        }
        for (int k = 0; k < x.size(0) * x.size(1); k++) {
            for (int what = 0; what <= 3; what++) s.append(x.cell(k, what)).append(' ');
        }
        return s.toString();
    }

    public static void same(String what, String got, String want) {
        looked++;
        if (!got.equals(want)) {
            wrong++;
            System.out.println(what + ": " + got + ", due is " + want);
        }
    }
}
