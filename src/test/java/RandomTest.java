import java.lang.reflect.InvocationTargetException;
import java.lang.reflect.Method;
import java.lang.reflect.Modifier;
import java.util.ArrayList;
import java.util.Arrays;
import java.util.Comparator;
import java.util.List;
import java.util.Random;

/** Holds GargoyleClose against PlainClose: drawn texts, right and wrong ones, and drawn calls. */
public final class RandomTest {
    private static final int RUNS = Integer.getInteger("runs", 700);
    private static final int CALLS = 500;
    private static final Method[] METHODS = methods();

    private final Random random;
    private final GargoyleClose x = new GargoyleClose();
    private final PlainClose y = new PlainClose();
    private final StringBuilder log = new StringBuilder();

    private RandomTest(long seed) {
        random = new Random(seed);
    }

    public static void main(String[] args) throws Exception {
        long from = Long.getLong("from", 1);
        for (long seed = from; seed < from + RUNS; seed++) {
            new RandomTest(seed).run(seed);
        }
        Check.end();
    }

    private static Method[] methods() {
        return Arrays.stream(GargoyleClose.class.getDeclaredMethods())
            .filter(m -> Modifier.isPublic(m.getModifiers()) && !m.getName().equals("feed"))
            .sorted(Comparator.comparing(Method::getName)).toArray(Method[]::new);
    }

    private void run(long seed) throws Exception {
        if (random.nextInt(4) > 0) {
            tell(text());
        }
        for (int i = 0; i < CALLS; i++) {
            int kind = random.nextInt(1000);
            boolean same;
            if (kind < 6) {
                same = tell(text());
            } else if (kind < 30) {
                same = tell(spoilt(text()));
            } else if (kind < 120) {
                same = call(method("day"));
            } else if (kind < 160) {
                same = call(method(random.nextBoolean() ? "vex" : "give"));
            } else {
                same = call(METHODS[random.nextInt(METHODS.length)]);
            }
            if (!same) {
                System.out.println("seed " + seed + ": " + log);
                return;
            }
        }
    }

    private static Method method(String name) {
        return Arrays.stream(METHODS).filter(m -> m.getName().equals(name)).findFirst().orElseThrow();
    }

    // ---- calls

    private boolean call(Method m) throws Exception {
        Class<?>[] types = m.getParameterTypes();
        Object[] args = new Object[types.length];
        for (int i = 0; i < args.length; i++) {
            args[i] = types[i] == boolean.class ? (Object) random.nextBoolean() : (Object) number(m.getName(), i);
        }
        return same(m, args);
    }

    private int number(String name, int i) {
        if ((name.equals("borne") && i == 1 || name.equals("firstWet") && i == 0) && random.nextInt(9) > 0) {
            return random.nextInt(65540) - 1;
        }
        switch (random.nextInt(12)) {
            case 0: return random.nextInt(64) - 2;
            case 1: return random.nextInt(33) - 1;
            case 2: return random.nextInt(22) - 1;
            case 3: return random.nextInt();
            case 4: return new int[] {Integer.MIN_VALUE, Integer.MAX_VALUE, -1, 60, 61, 30, 31, 99, 100}[random.nextInt(9)];
            case 5: case 6: return random.nextInt(10);
            default: return random.nextInt(6);
        }
    }

    private boolean same(Method m, Object[] args) throws Exception {
        long a = answer(x, m, args);
        long b = answer(y, PlainClose.class.getMethod(m.getName(), m.getParameterTypes()), args);
        String what = m.getName() + Arrays.toString(args);
        log.append(what).append(" = ").append(b).append("; ");
        Check.due(what, a, b);
        Check.due("trouble behind " + what, x.trouble(), y.trouble());
        Check.due("where behind " + what, x.where(), y.where());
        return a == b && x.trouble() == y.trouble() && x.where() == y.where();
    }

    /** A boolean counts 1 or 0; a NoSuchElementException -77; anything else thrown ends the test. */
    private static long answer(Object o, Method m, Object[] args) throws Exception {
        try {
            Object got = m.invoke(o, args);
            return got instanceof Boolean b ? (b ? 1 : 0) : ((Number) got).longValue();
        } catch (InvocationTargetException e) {
            if (e.getCause() instanceof java.util.NoSuchElementException) {
                return -77;
            }
            throw e;
        }
    }

    private boolean tell(String text) throws Exception {
        log.append("text <").append(text).append(">; ");
        int[] w = Check.words(text);
        for (int i = 0; i < w.length; i += 5) {
            Check.due("feed", x.feed(w[i], w[i + 1], w[i + 2], w[i + 3], w[i + 4]),
                y.feed(w[i], w[i + 1], w[i + 2], w[i + 3], w[i + 4]));
        }
        boolean all = random.nextInt(20) > 0;
        int n = all ? text.length() : random.nextInt(text.length() + 30) - 1;
        return same(GargoyleClose.class.getMethod("close", int.class), new Object[] {n});
    }

    // ---- texts

    private String text() {
        int wide = 2 + random.nextInt(4);
        int deep = 2 + random.nextInt(3);
        int cells = wide * deep;
        List<Integer> over = cells(cells);
        List<Integer> walls = cells(cells);
        walls = new ArrayList<>(walls.subList(0, random.nextInt(Math.min(6, cells - 1))));
        List<String> lines = new ArrayList<>();
        lines.add("close wide " + wide + " deep " + deep + " calm " + new int[] {0, 100, 50, 25, 1, 99, random.nextInt(101)}[random.nextInt(7)]);
        int faces = 1 + random.nextInt(Math.min(6, cells));
        int canons = random.nextInt(Math.min(5, faces) + 1);
        for (int k : walls) {
            lines.add("wall " + k);
        }
        for (int f = 0; f < faces; f++) {
            lines.add("face f" + letter(f) + " " + new String[] {"bat", "lion", "pig"}[random.nextInt(3)] + " holds "
                + (1 + random.nextInt(random.nextBoolean() ? 99 : 20)) + " wears " + random.nextInt(10) + " at " + over.get(f));
        }
        List<Integer> has = cells(faces);
        for (int c = 0; c < canons; c++) {
            lines.add("canon c" + letter(c) + " f" + letter(has.get(c)) + " vexed " + (1 + random.nextInt(30))
                + " every " + (1 + random.nextInt(random.nextBoolean() ? 9 : 2)));
        }
        List<Integer> free = cells(cells);
        free.removeAll(walls);
        for (int w = random.nextInt(5); w > 0; w--) {
            lines.add("walker w" + letter(w) + " from " + any(free) + " to " + any(free));
        }
        unsure(lines, canons);
        return String.join(";", lines);
    }

    /** Adds unsure canons, and first days that some set of them brings, one of them now and then spoilt. */
    private void unsure(List<String> lines, int canons) {
        List<Integer> who = cells(canons);
        for (int u = random.nextInt(Math.min(4, canons) + 1); u > 0; u--) {
            lines.add("unsure c" + letter(who.get(u - 1)) + " " + (1 + random.nextInt(30)));
        }
        PlainClose plain = new PlainClose();
        try {
            plain.told = PlainClose.read(String.join(";", lines));
        } catch (PlainClose.Faulty e) {
            throw new IllegalStateException(e);
        }
        int[] vexed = plain.vexedAsTold();
        for (int[] u : plain.told.unsure) {
            if (random.nextBoolean()) {
                vexed[u[0]] = u[1];
            }
        }
        PlainClose.State s = plain.beginning();
        boolean[] been = new boolean[6];
        for (int d = 1; d <= 40; d++) {
            plain.goOn(s, vexed, false);
            for (int f = 0; f < plain.told.faces.size(); f++) {
                if (!been[f] && s.drops[f] > 0) {
                    been[f] = true;
                    if (random.nextInt(3) == 0) {
                        int told = random.nextInt(12) == 0 ? 1 + random.nextInt(40) : d;
                        lines.add("dropped f" + letter(f) + " day " + told);
                    }
                }
            }
        }
    }

    private List<Integer> cells(int n) {
        List<Integer> all = new ArrayList<>();
        for (int i = 0; i < n; i++) {
            all.add(random.nextInt(i + 1), i);
        }
        return all;
    }

    private int any(List<Integer> of) {
        return of.get(random.nextInt(of.size()));
    }

    private static char letter(int i) {
        return (char) ('a' + i);
    }

    /** A text with some bytes or tokens changed, left out, or put in; cut to the tape's room. */
    private String spoilt(String text) {
        String s = text;
        for (int i = random.nextInt(2); i >= 0; i--) {
            List<PlainClose.Token> all = PlainClose.tokens(s);
            PlainClose.Token t = all.get(random.nextInt(all.size()));
            PlainClose.Token other = all.get(random.nextInt(all.size()));
            int stop = t.place() + t.text().length();
            String[] lines = s.split(";");
            switch (random.nextInt(7)) {
                case 0: s = s.substring(0, t.place()) + other.text() + s.substring(stop); break;
                case 1: s = s.substring(0, t.place()) + s.substring(stop); break;
                case 2: s = s.substring(0, stop) + " " + other.text() + s.substring(stop); break;
                case 3: s = s.substring(0, t.place()) + (char) random.nextInt(256) + s.substring(t.place()); break;
                case 4: s = s.substring(0, t.place()) + random.nextInt(1200) + s.substring(stop); break;
                case 5: s = s + ";" + lines[random.nextInt(lines.length)]; break;
                default: s = s.substring(0, random.nextInt(s.length() + 1)); break;
            }
        }
        return s.length() > 900 ? s.substring(0, 900) : s;
    }
}
