import java.lang.management.ManagementFactory;
import java.lang.reflect.Field;
import java.lang.reflect.Method;
import java.lang.reflect.Modifier;
import java.nio.file.Files;
import java.nio.file.Path;
import java.util.List;
import java.util.Set;
import java.util.TreeSet;
import java.util.regex.Matcher;
import java.util.regex.Pattern;

/** The public face as the document has it, and rules of LANGUAGE.md that can be seen from outside or in the source. */
public final class LanguageTest {
    private static final List<String> FACE = List.of(
        "int feed(int,int,int,int,int)", "int close(int)", "int fault()", "int where()", "int face(int,int)",
        "int canon(int,int)", "int cell(int,int)", "int burden()", "int bears(int,int)", "int holds(int,int)",
        "int drops(int,int)", "int dropsIn(int)", "int fallsIn(int)", "int wet(int)", "int wetDays(int,int)",
        "int wettest()", "int sunny()", "int heaviest()", "int fallen(int)", "int dropsIf(int,int,int)",
        "int faceFor(int,int)", "int match(int)", "int matchDrops(int)", "int matchAt(int,int)", "int steps(int,int)",
        "int wets(int,int)", "int way(int,int)", "int wayAt(int,int,int)", "int dryDay(int)", "int gate()", "int fits()",
        "int fitAt(int)", "int could()", "int surely()", "int ask()", "int askLeaves()", "int judge()",
        "int sulks(int,boolean,boolean,boolean)", "int rests(int)", "int rest(int)", "long odds(int,int,boolean)",
        "long mean(int,int,boolean)", "int borne(int,int,int)", "int firstWet(int,int)", "int day()", "int give(int,int)",
        "boolean mend(int)", "int vex(int,int)", "boolean undo()", "int image()", "boolean back(int)", "int led(int)",
        "int size(int)", "int trouble()");

    public static void main(String[] args) throws Exception {
        face();
        inside();
        source();
        room();
        Check.end();
    }

    private static void face() {
        Class<?> c = GargoyleClose.class;
        Check.due("public and final", Modifier.isPublic(c.getModifiers()) && Modifier.isFinal(c.getModifiers()), true);
        Check.due("NONE", GargoyleClose.NONE, -1);
        Check.due("constructors", c.getDeclaredConstructors().length, 1);
        Check.due("the public one", c.getConstructors().length, 1);
        Set<String> seen = new TreeSet<>();
        for (Method m : c.getDeclaredMethods()) {
            if (Modifier.isPublic(m.getModifiers())) {
                seen.add(signature(m));
            } else {
                Check.due("private: " + m, Modifier.isPrivate(m.getModifiers()), true);
            }
        }
        Check.due("all of the face, nothing else: " + seen, seen.equals(new TreeSet<>(FACE)), true);
        for (Field f : c.getDeclaredFields()) {
            Check.due("private: " + f, Modifier.isPrivate(f.getModifiers()) || f.getName().equals("NONE"), true);
        }
    }

    private static String signature(Method m) {
        StringBuilder s = new StringBuilder(m.getReturnType().getName()).append(' ').append(m.getName()).append('(');
        for (Class<?> p : m.getParameterTypes()) {
            s.append(s.charAt(s.length() - 1) == '(' ? "" : ",").append(p.getName());
        }
        return s.append(')').toString();
    }

    private static void inside() {
        Set<String> names = new TreeSet<>();
        for (String f : FACE) {
            names.add(f.substring(f.indexOf(' ') + 1, f.indexOf('(')));
        }
        Class<?>[] all = GargoyleClose.class.getDeclaredClasses();
        Check.due("at most twelve classes", all.length < 12, true);
        for (Class<?> c : all) {
            Check.due("static: " + c, Modifier.isStatic(c.getModifiers()), true);
            Check.due("not public: " + c, Modifier.isPublic(c.getModifiers()) || Modifier.isProtected(c.getModifiers()), false);
            for (Method m : c.getDeclaredMethods()) {
                Check.due("no name of the face: " + m, names.contains(m.getName()), false);
            }
        }
        for (Method m : GargoyleClose.class.getDeclaredMethods()) {
            Check.due("no name of the face: " + m, Modifier.isPrivate(m.getModifiers()) && names.contains(m.getName()), false);
        }
    }

    private static void source() throws Exception {
        String text = Files.readString(Path.of("src/main/java/GargoyleClose.java"));
        String code = text.replaceAll("(?s)/\\*.*?\\*/", "").replaceAll("//[^\n]*", "");
        for (String word : List.of("Exact", "catch", "try", "finally", "synchronized", "assert", "->", "::", "package",
                "float", "double", "System.out", "getMessage", "instanceof", "protected", "while (true)", "for (;;")) {
            Check.due("without " + word, Pattern.compile("(?<![A-Za-z])" + Pattern.quote(word)).matcher(code).find(), false);
        }
        Matcher imports = Pattern.compile("import ([^;]*);").matcher(code);
        while (imports.find()) {
            Check.due("import " + imports.group(1), imports.group(1).equals("java.util.NoSuchElementException"), true);
        }
        for (char c : text.toCharArray()) {
            if (c > 126) {
                Check.due("a sign beyond ASCII", c, 126);
            }
        }
        int open = 0;
        int line = 0;
        int from = 0;
        for (String row : code.split("\n")) {
            line++;
            boolean method = row.matches("\\s+[^=;]*\\(.*\\).*\\{") && !row.matches("\\s+(\\} else )?(if|for|while|switch)\\b.*");
            if (method) {
                from = line;
                open = row.indexOf(row.trim());
                Check.due("parameters of " + row.trim(), row.split(",").length <= 7, true);
            }
            if (from > 0 && row.startsWith(" ".repeat(open) + "}")) {
                Check.due("lines of the method at " + from, line - from <= 60, true);
                from = 0;
            }
        }
    }

    /** Calls make no objects: all rows are made with the object, which itself stays small. */
    private static void room() {
        com.sun.management.ThreadMXBean threads = (com.sun.management.ThreadMXBean) ManagementFactory.getThreadMXBean();
        int[] words = Check.words("close wide 2 deep 2 calm 50;wall 1;face a bat holds 9 wears 0 at 0;"
            + "face b pig holds 9 wears 1 at 2;canon x a vexed 9 every 1;walker w from 0 to 3;unsure x 4;dropped a day 1");
        GargoyleClose x = new GargoyleClose();
        calls(x, words);
        long before = threads.getCurrentThreadAllocatedBytes();
        for (int i = 0; i < 20; i++) {
            calls(x, words);
        }
        long made = threads.getCurrentThreadAllocatedBytes() - before;
        Check.due("bytes made by calls, " + made + ", are few", made < 2000, true);
        before = threads.getCurrentThreadAllocatedBytes();
        GargoyleClose y = new GargoyleClose();
        made = threads.getCurrentThreadAllocatedBytes() - before;
        Check.due("bytes of an object, " + made + ", are few", made < 20000 && y.size(0) == 0, true);
    }

    private static void calls(GargoyleClose x, int[] w) {
        for (int i = 0; i < w.length; i += 5) {
            x.feed(w[i], w[i + 1], w[i + 2], w[i + 3], w[i + 4]);
        }
        x.close(x.size(12));
        x.day();
        x.vex(0, 3);
        x.give(0, 1);
        x.mend(0);
        x.undo();
        x.image();
        x.back(0);
        x.match(30);
        x.faceFor(0, 30);
        x.wayAt(0, 3, 0);
        x.dryDay(0);
        x.gate();
        x.ask();
        x.fitAt(0);
        x.odds(0, 7, true);
        x.borne(0, 5, 60);
        x.wettest();
        x.heaviest();
        x.sunny();
    }
}
