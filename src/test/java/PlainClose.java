import java.math.BigInteger;
import java.util.ArrayDeque;
import java.util.ArrayList;
import java.util.Deque;
import java.util.HashMap;
import java.util.List;
import java.util.Map;
import java.util.NoSuchElementException;
import java.util.regex.Matcher;
import java.util.regex.Pattern;

/**
 * The document once more, as plainly and wastefully as can be, for RandomTest to hold GargoyleClose against:
 * whole days for all faces, all rows of faces, all simple ways, exact fractions.
 */
public final class PlainClose {
    // ---- the text, by a regular expression and a template for each line

    record Token(char sort, String text, int place) { }

    static final class Faulty extends Exception {
        final int number;
        final int place;

        Faulty(int number, int place) {
            this.number = number;
            this.place = place;
        }
    }

    static final class Told {
        int wide, deep, calm;
        List<Integer> walls = new ArrayList<>();
        List<int[]> faces = new ArrayList<>();    // kind, holds, wears, at
        List<int[]> canons = new ArrayList<>();   // face, vexed, every
        List<int[]> walkers = new ArrayList<>();  // from, to
        List<int[]> unsure = new ArrayList<>();   // canon, vexed
        Map<Integer, Integer> dropped = new HashMap<>();
    }

    static final Pattern TOKEN = Pattern.compile("(?<w>[a-z]+)|(?<n>[0-9]+)|(?<s>;)|(?<x>[^ ])", Pattern.DOTALL);
    static final List<String> LINES = List.of("close", "wall", "face", "canon", "walker", "unsure", "dropped");

    static List<Token> tokens(String text) {
        List<Token> all = new ArrayList<>();
        Matcher m = TOKEN.matcher(text);
        while (m.find()) {
            String t = m.group();
            char sort = m.group("w") != null && t.length() <= 8 ? 'w'
                : m.group("n") != null && t.length() <= 3 ? 'n' : m.group("s") != null ? ';' : 'x';
            all.add(new Token(sort, t, m.start()));
        }
        all.add(new Token('e', "", text.length()));
        return all;
    }

    static Told read(String text) throws Faulty {
        Told told = new Told();
        Map<String, String> names = new HashMap<>();
        List<Token> all = tokens(text);
        int i = 0;
        while (true) {
            Token first = all.get(i);
            if (first.sort != 'w' || !LINES.contains(first.text)) throw new Faulty(1, first.place);
            String sort = first.text;
            if (sort.equals("close") && told.wide > 0) throw new Faulty(3, first.place);
            int count = switch (sort) {
                case "wall" -> 5 - told.walls.size();
                case "face" -> 6 - told.faces.size();
                case "canon" -> 5 - told.canons.size();
                case "walker" -> 4 - told.walkers.size();
                case "unsure" -> 4 - told.unsure.size();
                default -> 1;
            };
            if (count == 0) throw new Faulty(5, first.place);
            if (!sort.equals("close") && told.wide == 0) throw new Faulty(6, first.place);
            if (sort.equals("wall") && !told.walkers.isEmpty()) throw new Faulty(7, first.place);
            i = readLine(told, names, all, i + 1, sort);
            Token behind = all.get(i);
            if (behind.sort == 'e') {
                if (told.faces.isEmpty()) throw new Faulty(6, behind.place);
                return told;
            }
            if (behind.sort != ';') throw new Faulty(1, behind.place);
            i++;
        }
    }

    /** A template's parts: a word itself, +sort a new name, =sort a name told, # a whole with its bounds. */
    static int readLine(Told told, Map<String, String> names, List<Token> all, int from, String sort) throws Faulty {
        int cells = told.wide * told.deep - 1;
        String cell = "#0-" + cells;
        String[] parts = (switch (sort) {
            case "close" -> "wide #2-5 deep #2-4 calm #0-100";
            case "wall" -> cell;
            case "face" -> "+face kind holds #1-99 wears #0-9 at " + cell;
            case "canon" -> "+canon =face vexed #1-30 every #1-9";
            case "walker" -> "+walker from " + cell + " to " + cell;
            case "unsure" -> "=canon #1-30";
            default -> "=face day #1-40";
        }).split(" ");
        List<Integer> got = new ArrayList<>();
        int i = from;
        for (String part : parts) {
            Token t = all.get(i);
            boolean name = t.sort == 'w' && !LINES.contains(t.text);
            if (part.startsWith("+")) {
                if (!name) throw new Faulty(1, t.place);
                if (names.containsKey(t.text)) throw new Faulty(3, t.place);
                int n = switch (part) {
                    case "+face" -> told.faces.size();
                    case "+canon" -> told.canons.size();
                    default -> told.walkers.size();
                };
                names.put(t.text, part.substring(1) + " " + n);
            } else if (part.startsWith("=")) {
                if (!name) throw new Faulty(1, t.place);
                String is = names.getOrDefault(t.text, "nothing 0");
                if (!is.split(" ")[0].equals(part.substring(1))) throw new Faulty(2, t.place);
                got.add(Integer.parseInt(is.split(" ")[1]));
            } else if (part.startsWith("#")) {
                if (t.sort != 'n') throw new Faulty(1, t.place);
                String[] b = part.substring(1).split("-");
                int n = Integer.parseInt(t.text);
                if (n < Integer.parseInt(b[0]) || n > Integer.parseInt(b[1])) throw new Faulty(4, t.place);
                got.add(n);
            } else if (part.equals("kind")) {
                int kind = List.of("bat", "lion", "pig").indexOf(t.text);
                if (kind < 0) throw new Faulty(1, t.place);
                got.add(kind);
            } else if (!t.text.equals(part)) {
                throw new Faulty(1, t.place);
            }
            i++;
            again(told, sort, got, t.place);
        }
        int[] row = got.stream().mapToInt(x -> x).toArray();
        switch (sort) {
            case "close" -> { told.wide = row[0]; told.deep = row[1]; told.calm = row[2]; }
            case "wall" -> told.walls.add(row[0]);
            case "face" -> told.faces.add(row);
            case "canon" -> told.canons.add(row);
            case "walker" -> told.walkers.add(row);
            case "unsure" -> told.unsure.add(row);
            default -> told.dropped.put(row[0], row[1]);
        }
        return i;
    }

    /** Faults of what was got so far; each is met at the token that brought it, so it is looked at each time. */
    static void again(Told told, String sort, List<Integer> got, int place) throws Faulty {
        int n = got.size();
        if (n == 0) return;
        int last = got.get(n - 1);
        boolean bad = switch (sort) {
            case "wall" -> told.walls.contains(last);
            case "face" -> n == 4 && told.faces.stream().anyMatch(f -> f[3] == last);
            case "canon" -> n == 1 && told.canons.stream().anyMatch(c -> c[0] == last);
            case "unsure" -> n == 1 && told.unsure.stream().anyMatch(u -> u[0] == last);
            case "dropped" -> n == 1 && told.dropped.containsKey(last);
            default -> false;
        };
        if (bad) throw new Faulty(3, place);
        if (sort.equals("walker") && told.walls.contains(last)) throw new Faulty(7, place);
    }

    // ---- what changes

    static final class State {
        int[] holds, bears, drops, faceOf;
        int days, wet;

        State copy() {
            State s = new State();
            s.holds = holds.clone();
            s.bears = bears.clone();
            s.drops = drops.clone();
            s.faceOf = faceOf.clone();
            s.days = days;
            s.wet = wet;
            return s;
        }
    }

    StringBuilder tape = new StringBuilder();
    Told told;
    State now;
    Deque<State> undos = new ArrayDeque<>();
    List<State> images = new ArrayList<>();
    int fault, place, trouble;

    State beginning() {
        State s = new State();
        int n = told.faces.size();
        s.holds = told.faces.stream().mapToInt(f -> f[1]).toArray();
        s.bears = new int[n];
        s.drops = new int[n];
        s.faceOf = told.canons.stream().mapToInt(c -> c[0]).toArray();
        return s;
    }

    int[] vexedAsTold() {
        return told.canons.stream().mapToInt(c -> c[1]).toArray();
    }

    void goOn(State s, int[] vexed, boolean calm) {
        s.days++;
        s.wet = 0;
        for (int c = 0; c < vexed.length && !calm; c++) {
            if (s.days % told.canons.get(c)[2] == 0 && s.holds[s.faceOf[c]] >= 1) s.bears[s.faceOf[c]] += vexed[c];
        }
        for (int f = 0; f < s.holds.length; f++) {
            int[] face = told.faces.get(f);
            if (s.holds[f] < 1) continue;
            int gone = 0;
            if (face[0] == 0 && s.bears[f] >= s.holds[f]) gone = s.bears[f];
            if (face[0] == 1 && s.bears[f] >= s.holds[f]) gone = s.holds[f];
            if (face[0] == 2 && s.bears[f] >= 2 * s.holds[f]) gone = s.bears[f];
            if (gone == 0) continue;
            s.bears[f] -= gone;
            s.drops[f]++;
            s.wet |= 1 << face[3];
            s.holds[f] -= face[2];
            if (s.holds[f] < 1) {
                s.holds[f] = 0;
                s.bears[f] = 0;
            }
        }
    }

    /** States behind 0, 1, .. n days from one on. */
    List<State> ahead(State from, int n) {
        List<State> all = new ArrayList<>();
        all.add(from.copy());
        for (int d = 0; d < n; d++) {
            State s = all.get(d).copy();
            goOn(s, vexedAsTold(), false);
            all.add(s);
        }
        return all;
    }

    State behind(int n) {
        return ahead(now, n).get(n);
    }

    // ---- refusals

    int no(int why) {
        trouble = why;
        return -1;
    }

    int yes(int what) {
        trouble = 0;
        return what;
    }

    boolean face(int f) {
        return told != null && f >= 0 && f < told.faces.size();
    }

    boolean canon(int c) {
        return told != null && c >= 0 && c < told.canons.size();
    }

    boolean cell(int k) {
        return told != null && k >= 0 && k < told.wide * told.deep;
    }

    boolean walker(int w) {
        return told != null && w >= 0 && w < told.walkers.size();
    }

    static boolean in(int n, int least, int most) {
        return least <= n && n <= most;
    }

    // ---- the calls

    public int feed(int a, int b, int c, int d, int e) {
        if (tape.length() + 20 > 900) return -1;
        for (int x : new int[] {a, b, c, d, e}) {
            for (int s = 24; s >= 0; s -= 8) tape.append((char) (x >>> s & 255));
        }
        return tape.length();
    }

    public int close(int n) {
        if (!in(n, 0, tape.length())) return no(2);
        String text = tape.substring(0, n);
        tape.setLength(0);
        try {
            told = read(text);
        } catch (Faulty f) {
            fault = f.number;
            place = f.place;
            return no(4);
        }
        fault = 0;
        now = beginning();
        undos.clear();
        images.clear();
        return yes(told.faces.size());
    }

    public int fault() {
        return fault;
    }

    public int where() {
        return trouble == 4 ? place : -1;
    }

    int has(State s, int f) {
        for (int c = 0; c < s.faceOf.length; c++) if (s.faceOf[c] == f) return c;
        return -2;
    }

    public int face(int f, int what) {
        if (!face(f) || !in(what, 0, 6)) return no(1);
        int[] t = told.faces.get(f);
        return yes(new int[] {t[0], now.holds[f], now.bears[f], now.holds[f] == 0 ? 1 : 0, now.drops[f], has(now, f), t[3]}[what]);
    }

    public int canon(int c, int what) {
        if (!canon(c) || !in(what, 0, 2)) return no(1);
        return yes(what == 0 ? now.faceOf[c] : told.canons.get(c)[what]);
    }

    public int cell(int k, int what) {
        if (!cell(k) || !in(what, 0, 3)) return no(1);
        int over = -2;
        for (int f = 0; f < told.faces.size(); f++) if (told.faces.get(f)[3] == k) over = f;
        int near = 0;
        if (!told.walls.contains(k)) for (int n : nexts(k, told.walls)) if (n >= 0) near |= 1 << n;
        return yes(new int[] {told.walls.contains(k) ? 1 : 0, over, now.wet >> k & 1, near}[what]);
    }

    public int burden() {
        if (told == null) return no(1);
        int sum = 0;
        for (int b : now.bears) sum += b;
        return yes(sum);
    }

    public int bears(int f, int n) {
        if (!face(f)) return no(1);
        if (!in(n, 0, 60)) return no(2);
        return yes(behind(n).bears[f]);
    }

    public int holds(int f, int n) {
        if (!face(f)) return no(1);
        if (!in(n, 0, 60)) return no(2);
        return yes(behind(n).holds[f]);
    }

    public int drops(int f, int n) {
        if (!face(f)) return no(1);
        if (!in(n, 0, 60)) return no(2);
        return yes(behind(n).drops[f] - now.drops[f]);
    }

    public int dropsIn(int f) {
        if (!face(f)) return no(1);
        List<State> all = ahead(now, 60);
        for (int n = 1; n <= 60; n++) if (all.get(n).drops[f] > now.drops[f]) return yes(n);
        return yes(-2);
    }

    public int fallsIn(int f) {
        if (!face(f)) return no(1);
        List<State> all = ahead(now, 60);
        for (int n = 0; n <= 60; n++) if (all.get(n).holds[f] == 0) return yes(n);
        return yes(-2);
    }

    public int wet(int n) {
        if (told == null) return no(1);
        if (!in(n, 1, 60)) return no(2);
        return yes(behind(n).wet);
    }

    int wetCount(int k, int n) {
        int count = 0;
        List<State> all = ahead(now, n);
        for (int d = 1; d <= n; d++) count += all.get(d).wet >> k & 1;
        return count;
    }

    public int wetDays(int k, int n) {
        if (!cell(k)) return no(1);
        if (!in(n, 0, 60)) return no(2);
        return yes(wetCount(k, n));
    }

    public int wettest() {
        if (told == null) return no(1);
        int best = 0;
        for (int k = 0; k < told.wide * told.deep; k++) if (wetCount(k, 60) > wetCount(best, 60)) best = k;
        return yes(best);
    }

    public int sunny() {
        if (told == null) return no(1);
        List<State> all = ahead(now, 60);
        for (int n = 1; n <= 60; n++) if (all.get(n).wet == 0) return yes(n);
        return yes(-2);
    }

    public int heaviest() {
        if (told == null) return no(1);
        int most = 0;
        List<State> all = ahead(now, 60);
        for (int n = 1; n <= 60; n++) for (int b : all.get(n).bears) most = Math.max(most, b);
        return yes(most);
    }

    public int fallen(int n) {
        if (told == null) return no(1);
        if (!in(n, 0, 60)) return no(2);
        int bits = 0;
        State s = behind(n);
        for (int f = 0; f < s.holds.length; f++) if (s.holds[f] == 0) bits |= 1 << f;
        return yes(bits);
    }

    /** {how many fall, how often one lets go} within n days, with faces for canons. */
    int[] outcome(int[] faceOf, int n) {
        State s = now.copy();
        s.faceOf = faceOf.clone();
        State end = ahead(s, n).get(n);
        int[] out = new int[2];
        for (int f = 0; f < s.holds.length; f++) {
            if (now.holds[f] > 0 && end.holds[f] == 0) out[0]++;
            out[1] += end.drops[f] - now.drops[f];
        }
        return out;
    }

    static boolean less(int[] a, int[] b) {
        return b == null || a[0] < b[0] || a[0] == b[0] && a[1] < b[1];
    }

    public int dropsIf(int c, int f, int n) {
        if (!canon(c) || !face(f)) return no(1);
        if (!in(n, 1, 30)) return no(2);
        if (now.holds[f] == 0 || has(now, f) != -2 && has(now, f) != c) return no(5);
        int[] faceOf = now.faceOf.clone();
        faceOf[c] = f;
        return yes(outcome(faceOf, n)[1]);
    }

    public int faceFor(int c, int n) {
        if (!canon(c)) return no(1);
        if (!in(n, 1, 30)) return no(2);
        int best = -2;
        int[] least = null;
        for (int f = 0; f < now.holds.length; f++) {
            if (now.holds[f] == 0 || has(now, f) != -2 && has(now, f) != c) continue;
            int[] faceOf = now.faceOf.clone();
            faceOf[c] = f;
            int[] out = outcome(faceOf, n);
            if (less(out, least)) {
                least = out;
                best = f;
            }
        }
        return yes(best);
    }

    int[] bestRow, bestOut;

    void allRows(int[] row, int c, int n) {
        if (c == row.length) {
            int[] out = outcome(row, n);
            if (less(out, bestOut)) {
                bestOut = out;
                bestRow = row.clone();
            }
            return;
        }
        for (int f = 0; f < now.holds.length; f++) {
            boolean taken = now.holds[f] == 0;
            for (int b = 0; b < c; b++) taken |= row[b] == f;
            if (taken) continue;
            row[c] = f;
            allRows(row, c + 1, n);
        }
    }

    boolean solve(int n) {
        bestOut = null;
        allRows(new int[told.canons.size()], 0, n);
        return bestOut != null;
    }

    public int match(int n) {
        if (told == null) return no(1);
        if (!in(n, 1, 30)) return no(2);
        return yes(solve(n) ? bestOut[0] : -2);
    }

    public int matchDrops(int n) {
        if (told == null) return no(1);
        if (!in(n, 1, 30)) return no(2);
        return yes(solve(n) ? bestOut[1] : -2);
    }

    public int matchAt(int c, int n) {
        if (!canon(c)) return no(1);
        if (!solve(1)) return no(1);
        if (!in(n, 1, 30)) return no(2);
        solve(n);
        return yes(bestRow[c]);
    }

    /** The cells to the north, east, south, west; -1 for those that aren't there. */
    int[] nexts(int k, List<Integer> walls) {
        int[] all = {k >= told.wide ? k - told.wide : -1, k % told.wide < told.wide - 1 ? k + 1 : -1,
            k + told.wide < told.wide * told.deep ? k + told.wide : -1, k % told.wide > 0 ? k - 1 : -1};
        for (int i = 0; i < 4; i++) if (walls.contains(all[i])) all[i] = -1;
        return all;
    }

    String bestWay;
    int bestWets;

    /** Looks at every way that comes to no cell twice. */
    void allWays(int k, int to, int wet, int been, int wets, String steps, List<Integer> walls) {
        int w = wets + (wet >> k & 1);
        if (k == to) {
            boolean better = bestWay == null || w < bestWets || w == bestWets && (steps.length() < bestWay.length()
                || steps.length() == bestWay.length() && steps.compareTo(bestWay) < 0);
            if (better) {
                bestWay = steps;
                bestWets = w;
            }
            return;
        }
        int[] nexts = nexts(k, walls);
        for (int s = 0; s < 4; s++) {
            if (nexts[s] < 0 || (been >> nexts[s] & 1) == 1) continue;
            allWays(nexts[s], to, wet, been | 1 << nexts[s], w, steps + s, walls);
        }
    }

    boolean findWay(int from, int to, int wet, List<Integer> walls) {
        bestWay = null;
        if (!walls.contains(from) && !walls.contains(to)) allWays(from, to, wet, 1 << from, 0, "", walls);
        return bestWay != null;
    }

    public int steps(int from, int to) {
        if (!cell(from) || !cell(to)) return no(1);
        return yes(findWay(from, to, 0, told.walls) ? bestWay.length() : -2);
    }

    boolean walk(int w, int n) {
        return findWay(told.walkers.get(w)[0], told.walkers.get(w)[1], behind(n).wet, told.walls);
    }

    public int wets(int w, int n) {
        if (!walker(w)) return no(1);
        if (!in(n, 1, 60)) return no(2);
        return yes(walk(w, n) ? bestWets : -2);
    }

    public int way(int w, int n) {
        if (!walker(w)) return no(1);
        if (!in(n, 1, 60)) return no(2);
        return yes(walk(w, n) ? bestWay.length() : -2);
    }

    public int wayAt(int w, int n, int i) {
        if (!walker(w)) return no(1);
        if (!in(n, 1, 60)) return no(2);
        if (!walk(w, n) || !in(i, 0, bestWay.length() - 1)) return no(1);
        return yes(bestWay.charAt(i) - '0');
    }

    public int dryDay(int w) {
        if (!walker(w)) return no(1);
        Map<Integer, Boolean> dry = new HashMap<>();
        for (int n = 1; n <= 60; n++) {
            int day = n;
            if (dry.computeIfAbsent(behind(n).wet, k -> walk(w, day) && bestWets == 0)) return yes(n);
        }
        return yes(-2);
    }

    public int gate() {
        if (told == null) return no(1);
        int best = -2;
        int least = Integer.MAX_VALUE;
        for (int k = 0; k < told.wide * told.deep; k++) {
            if (!told.walls.contains(k)) continue;
            List<Integer> left = new ArrayList<>(told.walls);
            left.remove(Integer.valueOf(k));
            int sum = 0;
            for (int[] w : told.walkers) sum += findWay(w[0], w[1], 0, left) ? bestWay.length() : 60;
            if (sum < least) {
                least = sum;
                best = k;
            }
        }
        return yes(best);
    }

    List<Integer> allFits() {
        List<Integer> all = new ArrayList<>();
        for (int set = 0; set < 1 << told.unsure.size(); set++) if (wrongDrop(set) == -2) all.add(set);
        return all;
    }

    int wrongDrop(int set) {
        int[] vexed = vexedAsTold();
        for (int u = 0; u < told.unsure.size(); u++) {
            if ((set >> u & 1) == 1) vexed[told.unsure.get(u)[0]] = told.unsure.get(u)[1];
        }
        int[] first = new int[told.faces.size()];
        State s = beginning();
        for (int d = 1; d <= 40; d++) {
            goOn(s, vexed, false);
            for (int f = 0; f < first.length; f++) if (first[f] == 0 && s.drops[f] > 0) first[f] = d;
        }
        for (int f = 0; f < first.length; f++) {
            if (told.dropped.containsKey(f) && told.dropped.get(f) != first[f]) return f;
        }
        return -2;
    }

    public int fits() {
        return told == null ? no(1) : yes(allFits().size());
    }

    public int fitAt(int i) {
        if (told == null || !in(i, 0, allFits().size() - 1)) return no(1);
        return yes(allFits().get(i));
    }

    public int could() {
        if (told == null) return no(1);
        int bits = 0;
        for (int set : allFits()) bits |= set;
        return yes(bits);
    }

    public int surely() {
        if (told == null) return no(1);
        int bits = 15;
        for (int set : allFits()) bits &= set;
        return yes(allFits().isEmpty() ? 0 : bits);
    }

    int left(int u) {
        int with = 0;
        for (int set : allFits()) with += set >> u & 1;
        return Math.max(with, allFits().size() - with);
    }

    public int ask() {
        if (told == null) return no(1);
        if (allFits().isEmpty() || told.unsure.isEmpty()) return yes(-2);
        int best = 0;
        for (int u = 1; u < told.unsure.size(); u++) if (left(u) < left(best)) best = u;
        return yes(best);
    }

    public int askLeaves() {
        int u = ask();
        return u < 0 ? u : yes(left(u));
    }

    public int judge() {
        return told == null ? no(1) : yes(wrongDrop(0));
    }

    /** By sulk, burnt: the canon's, the bread's; ears yet to be taken from a sulking canon's. */
    static final int[][][] GAME = {{{2, 0}, {0, 3}}, {{0, 2}, {3, 1}}};

    static int game(int ears, int s, int b, int who) {
        return GAME[s][b][who] - (who == 0 && s == 1 ? ears : 0);
    }

    public int sulks(int ears, boolean sulk, boolean burnt, boolean ofBread) {
        if (told == null || !in(ears, 0, 9)) {
            no(told == null ? 1 : 2);
            return -100;
        }
        return yes(game(ears, sulk ? 1 : 0, burnt ? 1 : 0, ofBread ? 1 : 0));
    }

    List<Integer> allRests(int ears) {
        List<Integer> all = new ArrayList<>();
        for (int s = 0; s < 2; s++) {
            for (int b = 0; b < 2; b++) {
                boolean canonMoves = game(ears, 1 - s, b, 0) > game(ears, s, b, 0);
                boolean breadMoves = game(ears, s, 1 - b, 1) > game(ears, s, b, 1);
                if (!canonMoves && !breadMoves) all.add(10 * s + b);
            }
        }
        return all;
    }

    public int rests(int ears) {
        if (told == null) return no(1);
        return in(ears, 0, 9) ? yes(allRests(ears).size()) : no(2);
    }

    public int rest(int ears) {
        if (told == null) return no(1);
        if (!in(ears, 0, 9)) return no(2);
        return yes(allRests(ears).isEmpty() ? -2 : allRests(ears).get(0));
    }

    /** {upper sum, lower} by BigInteger, in hundredths a day, over the tree of calm and other days. */
    BigInteger sum(State s, int f, int n, boolean ofBurden) {
        if (n == 0) return BigInteger.valueOf(ofBurden ? s.bears[f] : s.drops[f] > now.drops[f] ? 1 : 0);
        State calm = s.copy();
        goOn(calm, vexedAsTold(), true);
        State other = s.copy();
        goOn(other, vexedAsTold(), false);
        return sum(calm, f, n - 1, ofBurden).multiply(BigInteger.valueOf(told.calm))
            .add(sum(other, f, n - 1, ofBurden).multiply(BigInteger.valueOf(100 - told.calm)));
    }

    long fraction(int f, int n, boolean lower, boolean ofBurden) {
        if (!face(f)) return no(1);
        if (!in(n, 0, 7)) return no(2);
        yes(0);
        BigInteger up = sum(now, f, n, ofBurden);
        BigInteger low = BigInteger.valueOf(100).pow(n);
        return (lower ? low : up).divide(up.gcd(low)).longValueExact();
    }

    public long odds(int f, int n, boolean lower) {
        return fraction(f, n, lower, false);
    }

    public long mean(int f, int n, boolean lower) {
        return fraction(f, n, lower, true);
    }

    List<State> drawn(int seed, int n) {
        List<State> all = new ArrayList<>();
        State s = now.copy();
        int x = seed;
        for (int d = 0; d < n; d++) {
            x = (75 * x + 74) % 65537;
            goOn(s, vexedAsTold(), x % 100 < told.calm);
            all.add(s.copy());
        }
        return all;
    }

    public int borne(int f, int seed, int n) {
        if (!face(f)) return no(1);
        if (!in(seed, 0, 65536) || !in(n, 0, 60)) return no(2);
        return yes(n == 0 ? now.bears[f] : drawn(seed, n).get(n - 1).bears[f]);
    }

    public int firstWet(int seed, int n) {
        if (told == null) return no(1);
        if (!in(seed, 0, 65536) || !in(n, 0, 60)) return no(2);
        List<State> all = drawn(seed, n);
        for (int d = 0; d < n; d++) if (all.get(d).wet != 0) return yes(d + 1);
        return yes(-2);
    }

    void act() {
        undos.push(now.copy());
        if (undos.size() > 16) undos.removeLast();
    }

    public int day() {
        if (told == null) return no(1);
        if (now.days == 999) return no(3);
        act();
        goOn(now, vexedAsTold(), false);
        return yes(now.wet);
    }

    public int give(int c, int f) {
        if (!canon(c) || !face(f)) return no(1);
        if (has(now, f) != -2 || now.holds[f] == 0) return no(5);
        act();
        int had = now.faceOf[c];
        now.faceOf[c] = f;
        return yes(had);
    }

    public boolean mend(int f) {
        if (!face(f)) return no(1) == 0;
        int as = told.faces.get(f)[1];
        if (now.holds[f] == 0 || now.holds[f] == as && now.bears[f] == 0) return no(5) == 0;
        act();
        now.holds[f] = as;
        now.bears[f] = 0;
        return yes(1) == 1;
    }

    public int vex(int f, int much) {
        if (!face(f)) return no(1);
        if (!in(much, 1, 99)) return no(2);
        if (now.holds[f] == 0) return no(5);
        if (now.bears[f] + much > 999) return no(3);
        act();
        now.bears[f] += much;
        return yes(now.bears[f]);
    }

    public boolean undo() {
        if (undos.isEmpty()) return no(6) == 0;
        now = undos.pop();
        return yes(1) == 1;
    }

    public int image() {
        if (told == null) return no(1);
        if (images.size() == 3) return no(3);
        images.add(now.copy());
        return yes(images.size() - 1);
    }

    public boolean back(int image) {
        if (!in(image, 0, images.size() - 1)) return no(1) == 0;
        now = images.get(image).copy();
        undos.clear();
        return yes(1) == 1;
    }

    public int led(int i) {
        List<Integer> all = new ArrayList<>();
        for (int f = 0; told != null && f < now.holds.length; f++) if (now.holds[f] > 0 && has(now, f) == -2) all.add(f);
        if (!in(i, 0, all.size() - 1)) throw new NoSuchElementException();
        return all.get(i);
    }

    public int size(int what) {
        if (!in(what, 0, 12)) return -1;
        if (what == 12) return tape.length();
        if (told == null) return 0;
        return new int[] {told.wide, told.deep, told.calm, told.walls.size(), told.faces.size(), told.canons.size(),
            told.walkers.size(), told.unsure.size(), told.dropped.size(), now.days, undos.size(), images.size()}[what];
    }

    public int trouble() {
        return trouble;
    }
}
