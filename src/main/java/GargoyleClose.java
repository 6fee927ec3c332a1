import java.util.NoSuchElementException;

/**
 * A close of cells with walls, gargoyles over some of them, and canons whose vexations they bear.
 * The text of a close is fed to a tape and read by close(n); all else is asked of what was read.
 */
public final class GargoyleClose {
    public static final int NONE = -1;

    /** The answer where a question has none, unlike NONE, by which a call is refused. */
    private static final int NOTHING = -2;

    private static final int NO_SUCH = 1;
    private static final int BAD_NUMBER = 2;
    private static final int NO_ROOM = 3;
    private static final int FAULTY = 4;
    private static final int NOT_SO = 5;
    private static final int EMPTY = 6;

    private static final int FORM = 1;
    private static final int UNTOLD = 2;
    private static final int AGAIN = 3;
    private static final int OUT_OF_BOUNDS = 4;
    private static final int MANY = 5;
    private static final int LACKS = 6;
    private static final int WALL = 7;

    private static final int TAPE_ROOM = 900;
    private static final int MOST_WIDE = 5;
    private static final int MOST_DEEP = 4;
    private static final int MOST_CELLS = 20;
    private static final int MOST_WALLS = 5;
    private static final int MOST_FACES = 6;
    private static final int MOST_CANONS = 5;
    private static final int MOST_WALKERS = 4;
    private static final int MOST_UNSURE = 4;
    private static final int MOST_NAMES = 15;
    private static final int MOST_VEXED = 30;
    private static final int LAST_DROP_DAY = 40;

    private static final int AHEAD = 60;
    private static final int MATCH_AHEAD = 30;
    private static final int CHANCE_AHEAD = 7;
    private static final int MOST_DAYS = 999;
    private static final int MOST_BORNE = 999;
    private static final int MOST_VEX = 99;
    private static final int UNDOS = 16;
    private static final int IMAGES = 3;
    private static final int MOST_EARS = 9;
    private static final int SEEDS = 65537;
    private static final int NO_WAY_STEPS = 60;
    private static final int SULKS_REFUSED = -100;

    private static final int BAT = 0;
    private static final int LION = 1;
    private static final int PIG = 2;

    /** One fall outweighs all that can let go in 30 days, so that one number ranks both. */
    private static final int FALL_WEIGHT = 1024;

    /** One wet cell outweighs all steps that a way can have, so that one number ranks both. */
    private static final int WET_WEIGHT = 32;
    private static final int FAR = 1 << 20;

    private final Reader reader = new Reader();
    private Plan plan = new Plan();
    private Plan spare = new Plan();
    private final Moment now = new Moment();
    private final Moment[] kept = new Moment[UNDOS];
    private int keptNext = 0;
    private int keptCount = 0;
    private final Moment[] images = new Moment[IMAGES];
    private int imageCount = 0;
    private final Course course = new Course();
    private final Ways ways = new Ways();
    private final Matching matching = new Matching();
    private final int[] wetOn = new int[AHEAD + 1];
    private int refusal = 0;

    public GargoyleClose() {
        for (int i = 0; i < UNDOS; i++) {
            kept[i] = new Moment();
        }
        for (int i = 0; i < IMAGES; i++) {
            images[i] = new Moment();
        }
    }

    // ---- the close

    public int feed(int a, int b, int c, int d, int e) {
        if (reader.taped + 20 > TAPE_ROOM) {
            return NONE;
        }
        reader.tape(a);
        reader.tape(b);
        reader.tape(c);
        reader.tape(d);
        reader.tape(e);
        return reader.taped;
    }

    public int close(int n) {
        if (n < 0 || n > reader.taped) {
            return refuse(BAD_NUMBER);
        }
        reader.taped = 0;
        if (!reader.reads(n, spare)) {
            return refuse(FAULTY);
        }
        Plan old = plan;
        plan = spare;
        spare = old;
        now.begin(plan);
        keptCount = 0;
        imageCount = 0;
        return answer(plan.faces);
    }

    public int fault() {
        return reader.found;
    }

    public int where() {
        return refusal == FAULTY ? reader.foundAt : NONE;
    }

    // ---- now

    public int face(int f, int what) {
        if (!isFace(f)) {
            return refuse(NO_SUCH);
        }
        switch (what) {
            case 0: return answer(plan.kind[f]);
            case 1: return answer(now.holds[f]);
            case 2: return answer(now.bears[f]);
            case 3: return answer(now.hasFallen(f) ? 1 : 0);
            case 4: return answer(now.drops[f]);
            case 5: return answer(canonOf(f));
            case 6: return answer(plan.at[f]);
            default: return refuse(NO_SUCH);
        }
    }

    public int canon(int c, int what) {
        if (!isCanon(c)) {
            return refuse(NO_SUCH);
        }
        switch (what) {
            case 0: return answer(now.faceOf[c]);
            case 1: return answer(plan.vexed[c]);
            case 2: return answer(plan.every[c]);
            default: return refuse(NO_SUCH);
        }
    }

    public int cell(int k, int what) {
        if (!isCell(k)) {
            return refuse(NO_SUCH);
        }
        switch (what) {
            case 0: return answer(plan.isWall(k) ? 1 : 0);
            case 1: return answer(plan.faceOver(k));
            case 2: return answer(now.wet >> k & 1);
            case 3: return answer(plan.isWall(k) ? 0 : ways.beside(plan, 1 << k) & plan.open());
            default: return refuse(NO_SUCH);
        }
    }

    public int burden() {
        if (!hasClose()) {
            return refuse(NO_SUCH);
        }
        int all = 0;
        for (int f = 0; f < plan.faces; f++) {
            all += now.bears[f];
        }
        return answer(all);
    }

    // ---- days to come

    public int bears(int f, int n) {
        if (!canFollow(f, n)) {
            return NONE;
        }
        follow(f, n);
        return answer(course.bears);
    }

    public int holds(int f, int n) {
        if (!canFollow(f, n)) {
            return NONE;
        }
        follow(f, n);
        return answer(course.holds);
    }

    public int drops(int f, int n) {
        if (!canFollow(f, n)) {
            return NONE;
        }
        follow(f, n);
        return answer(course.drops);
    }

    public int dropsIn(int f) {
        if (!isFace(f)) {
            return refuse(NO_SUCH);
        }
        startNow(f, canonOf(f));
        return answer(course.firstDrop(AHEAD));
    }

    public int fallsIn(int f) {
        if (!isFace(f)) {
            return refuse(NO_SUCH);
        }
        startNow(f, canonOf(f));
        for (int n = 0; n <= AHEAD; n++) {
            if (course.holds == 0) {
                return answer(n);
            }
            course.pass(false);
        }
        return answer(NOTHING);
    }

    public int wet(int n) {
        if (!canLookAhead(n, 1, AHEAD)) {
            return NONE;
        }
        foretellWet(n);
        return answer(wetOn[n]);
    }

    public int wetDays(int k, int n) {
        if (!isCell(k)) {
            return refuse(NO_SUCH);
        }
        if (!within(n, 0, AHEAD)) {
            return refuse(BAD_NUMBER);
        }
        return answer(wetDaysOf(k, n));
    }

    public int wettest() {
        if (!hasClose()) {
            return refuse(NO_SUCH);
        }
        int best = 0;
        int most = wetDaysOf(0, AHEAD);
        for (int k = 1; k < plan.cells(); k++) {
            int often = wetDaysOf(k, AHEAD);
            if (often > most) {
                most = often;
                best = k;
            }
        }
        return answer(best);
    }

    public int sunny() {
        if (!hasClose()) {
            return refuse(NO_SUCH);
        }
        foretellWet(AHEAD);
        for (int n = 1; n <= AHEAD; n++) {
            if (wetOn[n] == 0) {
                return answer(n);
            }
        }
        return answer(NOTHING);
    }

    public int heaviest() {
        if (!hasClose()) {
            return refuse(NO_SUCH);
        }
        int most = 0;
        for (int f = 0; f < plan.faces; f++) {
            startNow(f, canonOf(f));
            for (int n = 1; n <= AHEAD; n++) {
                course.pass(false);
                most = Math.max(most, course.bears);
            }
        }
        return answer(most);
    }

    public int fallen(int n) {
        if (!canLookAhead(n, 0, AHEAD)) {
            return NONE;
        }
        int bits = 0;
        for (int f = 0; f < plan.faces; f++) {
            follow(f, n);
            if (course.holds == 0) {
                bits |= 1 << f;
            }
        }
        return answer(bits);
    }

    // ---- faces to canons

    public int dropsIf(int c, int f, int n) {
        if (!isCanon(c) || !isFace(f)) {
            return refuse(NO_SUCH);
        }
        if (!within(n, 1, MATCH_AHEAD)) {
            return refuse(BAD_NUMBER);
        }
        if (!couldHave(c, f)) {
            return refuse(NOT_SO);
        }
        return answer(costIf(c, f, n) % FALL_WEIGHT);
    }

    public int faceFor(int c, int n) {
        if (!isCanon(c)) {
            return refuse(NO_SUCH);
        }
        if (!within(n, 1, MATCH_AHEAD)) {
            return refuse(BAD_NUMBER);
        }
        int best = NOTHING;
        int least = 0;
        for (int f = 0; f < plan.faces; f++) {
            if (!couldHave(c, f)) {
                continue;
            }
            int cost = costIf(c, f, n);
            if (best == NOTHING || cost < least) {
                least = cost;
                best = f;
            }
        }
        return answer(best);
    }

    public int match(int n) {
        if (!canLookAhead(n, 1, MATCH_AHEAD)) {
            return NONE;
        }
        if (tooFewFaces()) {
            return answer(NOTHING);
        }
        makeMatch(n);
        return answer(matching.least / FALL_WEIGHT);
    }

    public int matchDrops(int n) {
        if (!canLookAhead(n, 1, MATCH_AHEAD)) {
            return NONE;
        }
        if (tooFewFaces()) {
            return answer(NOTHING);
        }
        makeMatch(n);
        return answer(matching.least % FALL_WEIGHT);
    }

    public int matchAt(int c, int n) {
        if (!isCanon(c) || tooFewFaces()) {
            return refuse(NO_SUCH);
        }
        if (!within(n, 1, MATCH_AHEAD)) {
            return refuse(BAD_NUMBER);
        }
        makeMatch(n);
        return answer(matching.best[c]);
    }

    // ---- ways

    public int steps(int from, int to) {
        if (!isCell(from) || !isCell(to)) {
            return refuse(NO_SUCH);
        }
        return answer(ways.fewest(plan, plan.open(), from, to));
    }

    public int wets(int w, int n) {
        if (!canWalk(w, n)) {
            return NONE;
        }
        int cost = wayCost(w, n);
        return answer(cost >= FAR ? NOTHING : cost / WET_WEIGHT);
    }

    public int way(int w, int n) {
        if (!canWalk(w, n)) {
            return NONE;
        }
        int cost = wayCost(w, n);
        return answer(cost >= FAR ? NOTHING : cost % WET_WEIGHT);
    }

    public int wayAt(int w, int n, int i) {
        if (!canWalk(w, n)) {
            return NONE;
        }
        int cost = wayCost(w, n);
        if (cost >= FAR || i < 0 || i >= cost % WET_WEIGHT) {
            return refuse(NO_SUCH);
        }
        return answer(ways.stepAt(plan, plan.from[w], i));
    }

    public int dryDay(int w) {
        if (!isWalker(w)) {
            return refuse(NO_SUCH);
        }
        foretellWet(AHEAD);
        for (int n = 1; n <= AHEAD; n++) {
            int dry = plan.open() & ~wetOn[n];
            if (ways.fewest(plan, dry, plan.from[w], plan.to[w]) != NOTHING) {
                return answer(n);
            }
        }
        return answer(NOTHING);
    }

    public int gate() {
        if (!hasClose()) {
            return refuse(NO_SUCH);
        }
        int best = NOTHING;
        int least = 0;
        for (int k = 0; k < plan.cells(); k++) {
            if (!plan.isWall(k)) {
                continue;
            }
            int together = stepsTogether(plan.open() | 1 << k);
            if (best == NOTHING || together < least) {
                least = together;
                best = k;
            }
        }
        return answer(best);
    }

    // ---- unsure canons

    public int fits() {
        if (!hasClose()) {
            return refuse(NO_SUCH);
        }
        return answer(Integer.bitCount(fittingSets()));
    }

    public int fitAt(int i) {
        if (!hasClose() || i < 0) {
            return refuse(NO_SUCH);
        }
        int fitting = fittingSets();
        int ahead = 0;
        for (int set = 0; set < 1 << plan.unsures; set++) {
            if ((fitting >> set & 1) == 0) {
                continue;
            }
            if (ahead == i) {
                return answer(set);
            }
            ahead++;
        }
        return refuse(NO_SUCH);
    }

    public int could() {
        if (!hasClose()) {
            return refuse(NO_SUCH);
        }
        int fitting = fittingSets();
        int bits = 0;
        for (int u = 0; u < plan.unsures; u++) {
            if (setsWith(fitting, u) > 0) {
                bits |= 1 << u;
            }
        }
        return answer(bits);
    }

    public int surely() {
        if (!hasClose()) {
            return refuse(NO_SUCH);
        }
        int fitting = fittingSets();
        int all = Integer.bitCount(fitting);
        int bits = 0;
        for (int u = 0; u < plan.unsures; u++) {
            if (all > 0 && setsWith(fitting, u) == all) {
                bits |= 1 << u;
            }
        }
        return answer(bits);
    }

    public int ask() {
        if (!hasClose()) {
            return refuse(NO_SUCH);
        }
        return answer(bestToAsk(fittingSets()));
    }

    public int askLeaves() {
        if (!hasClose()) {
            return refuse(NO_SUCH);
        }
        int fitting = fittingSets();
        int asked = bestToAsk(fitting);
        return answer(asked == NOTHING ? NOTHING : leftAtMost(fitting, asked));
    }

    public int judge() {
        if (!hasClose()) {
            return refuse(NO_SUCH);
        }
        for (int f = 0; f < plan.faces; f++) {
            if (!dropFits(f, 0)) {
                return answer(f);
            }
        }
        return answer(NOTHING);
    }

    // ---- canon and bread

    public int sulks(int ears, boolean sulk, boolean burnt, boolean ofBread) {
        if (!canGame(ears)) {
            return SULKS_REFUSED;
        }
        return answer(share(ears, sulk ? 1 : 0, burnt ? 1 : 0, ofBread));
    }

    public int rests(int ears) {
        if (!canGame(ears)) {
            return NONE;
        }
        int count = 0;
        for (int pair = 0; pair < 4; pair++) {
            if (isRest(ears, pair >> 1, pair & 1)) {
                count++;
            }
        }
        return answer(count);
    }

    public int rest(int ears) {
        if (!canGame(ears)) {
            return NONE;
        }
        for (int pair = 0; pair < 4; pair++) {
            if (isRest(ears, pair >> 1, pair & 1)) {
                return answer(10 * (pair >> 1) + (pair & 1));
            }
        }
        return answer(NOTHING);
    }

    // ---- calm days

    public long odds(int f, int n, boolean lower) {
        if (!canChance(f, n)) {
            return NONE;
        }
        return chance(f, n, lower, false);
    }

    public long mean(int f, int n, boolean lower) {
        if (!canChance(f, n)) {
            return NONE;
        }
        return chance(f, n, lower, true);
    }

    public int borne(int f, int seed, int n) {
        if (!isFace(f)) {
            return refuse(NO_SUCH);
        }
        if (!isSeed(seed) || !within(n, 0, AHEAD)) {
            return refuse(BAD_NUMBER);
        }
        startNow(f, canonOf(f));
        int drawn = seed;
        for (int d = 1; d <= n; d++) {
            drawn = draw(drawn);
            course.pass(isCalm(drawn));
        }
        return answer(course.bears);
    }

    public int firstWet(int seed, int n) {
        if (!hasClose()) {
            return refuse(NO_SUCH);
        }
        if (!isSeed(seed) || !within(n, 0, AHEAD)) {
            return refuse(BAD_NUMBER);
        }
        int first = NOTHING;
        for (int f = 0; f < plan.faces; f++) {
            int d = firstDropBySeed(f, seed, n);
            if (d != NOTHING && (first == NOTHING || d < first)) {
                first = d;
            }
        }
        return answer(first);
    }

    // ---- acts

    public int day() {
        if (!hasClose()) {
            return refuse(NO_SUCH);
        }
        if (now.days >= MOST_DAYS) {
            return refuse(NO_ROOM);
        }
        keep();
        int bits = 0;
        for (int f = 0; f < plan.faces; f++) {
            startNow(f, canonOf(f));
            if (course.pass(false)) {
                bits |= 1 << plan.at[f];
            }
            now.holds[f] = course.holds;
            now.bears[f] = course.bears;
            now.drops[f] += course.drops;
        }
        now.days++;
        now.wet = bits;
        return answer(bits);
    }

    public int give(int c, int f) {
        if (!isCanon(c) || !isFace(f)) {
            return refuse(NO_SUCH);
        }
        if (canonOf(f) != NOTHING || now.hasFallen(f)) {
            return refuse(NOT_SO);
        }
        keep();
        int had = now.faceOf[c];
        now.faceOf[c] = f;
        return answer(had);
    }

    public boolean mend(int f) {
        if (!isFace(f)) {
            refuse(NO_SUCH);
            return false;
        }
        boolean whole = now.holds[f] == plan.holds[f] && now.bears[f] == 0;
        if (now.hasFallen(f) || whole) {
            refuse(NOT_SO);
            return false;
        }
        keep();
        now.holds[f] = plan.holds[f];
        now.bears[f] = 0;
        answer(0);
        return true;
    }

    public int vex(int f, int much) {
        if (!isFace(f)) {
            return refuse(NO_SUCH);
        }
        if (!within(much, 1, MOST_VEX)) {
            return refuse(BAD_NUMBER);
        }
        if (now.hasFallen(f)) {
            return refuse(NOT_SO);
        }
        if (now.bears[f] + much > MOST_BORNE) {
            return refuse(NO_ROOM);
        }
        keep();
        now.bears[f] += much;
        return answer(now.bears[f]);
    }

    public boolean undo() {
        if (keptCount == 0) {
            refuse(EMPTY);
            return false;
        }
        keptNext = (keptNext + UNDOS - 1) % UNDOS;
        keptCount--;
        now.copy(kept[keptNext]);
        answer(0);
        return true;
    }

    public int image() {
        if (!hasClose()) {
            return refuse(NO_SUCH);
        }
        if (imageCount >= IMAGES) {
            return refuse(NO_ROOM);
        }
        images[imageCount].copy(now);
        imageCount++;
        return answer(imageCount - 1);
    }

    public boolean back(int image) {
        if (image < 0 || image >= imageCount) {
            refuse(NO_SUCH);
            return false;
        }
        now.copy(images[image]);
        keptCount = 0;
        answer(0);
        return true;
    }

    // ---- what is told

    public int led(int i) throws NoSuchElementException {
        int ahead = 0;
        for (int f = 0; f < plan.faces; f++) {
            if (now.hasFallen(f) || canonOf(f) != NOTHING) {
                continue;
            }
            if (ahead == i) {
                return f;
            }
            ahead++;
        }
        throw new NoSuchElementException();
    }

    public int size(int what) {
        switch (what) {
            case 0: return plan.wide;
            case 1: return plan.deep;
            case 2: return plan.calm;
            case 3: return plan.wallCount();
            case 4: return plan.faces;
            case 5: return plan.canons;
            case 6: return plan.walkers;
            case 7: return plan.unsures;
            case 8: return plan.droppedCount();
            case 9: return now.days;
            case 10: return keptCount;
            case 11: return imageCount;
            case 12: return reader.taped;
            default: return NONE;
        }
    }

    public int trouble() {
        return refusal;
    }

    // ---- what calls share

    private int answer(int what) {
        refusal = 0;
        return what;
    }

    private int refuse(int why) {
        refusal = why;
        return NONE;
    }

    private static boolean within(int n, int least, int most) {
        return n >= least && n <= most;
    }

    private boolean hasClose() {
        return plan.faces > 0;
    }

    private boolean isFace(int f) {
        return f >= 0 && f < plan.faces;
    }

    private boolean isCanon(int c) {
        return c >= 0 && c < plan.canons;
    }

    private boolean isCell(int k) {
        return k >= 0 && k < plan.cells();
    }

    private boolean isWalker(int w) {
        return w >= 0 && w < plan.walkers;
    }

    private static boolean isSeed(int seed) {
        return seed >= 0 && seed < SEEDS;
    }

    /** The canon who has a face now, NOTHING if none has. */
    private int canonOf(int f) {
        for (int c = 0; c < plan.canons; c++) {
            if (now.faceOf[c] == f) {
                return c;
            }
        }
        return NOTHING;
    }

    private boolean canFollow(int f, int n) {
        if (!isFace(f)) {
            refuse(NO_SUCH);
            return false;
        }
        return numberFits(n, 0, AHEAD);
    }

    private boolean canLookAhead(int n, int least, int most) {
        if (!hasClose()) {
            refuse(NO_SUCH);
            return false;
        }
        return numberFits(n, least, most);
    }

    private boolean canWalk(int w, int n) {
        if (!isWalker(w)) {
            refuse(NO_SUCH);
            return false;
        }
        return numberFits(n, 1, AHEAD);
    }

    private boolean canGame(int ears) {
        return canLookAhead(ears, 0, MOST_EARS);
    }

    private boolean canChance(int f, int n) {
        if (!isFace(f)) {
            refuse(NO_SUCH);
            return false;
        }
        return numberFits(n, 0, CHANCE_AHEAD);
    }

    private boolean numberFits(int n, int least, int most) {
        if (!within(n, least, most)) {
            refuse(BAD_NUMBER);
            return false;
        }
        return true;
    }

    // ---- following faces through days

    private void startNow(int f, int c) {
        course.start(plan, f, c, c < 0 ? 0 : plan.vexed[c]);
        course.holds = now.holds[f];
        course.bears = now.bears[f];
        course.number = now.days;
    }

    private void follow(int f, int n) {
        startNow(f, canonOf(f));
        course.passAll(n);
    }

    /** Fills the row of wet cells for the next n days. */
    private void foretellWet(int n) {
        for (int d = 1; d <= n; d++) {
            wetOn[d] = 0;
        }
        for (int f = 0; f < plan.faces; f++) {
            startNow(f, canonOf(f));
            for (int d = 1; d <= n; d++) {
                if (course.pass(false)) {
                    wetOn[d] |= 1 << plan.at[f];
                }
            }
        }
    }

    private int wetDaysOf(int k, int n) {
        int f = plan.faceOver(k);
        if (f == NOTHING) {
            return 0;
        }
        follow(f, n);
        return course.drops;
    }

    private int firstDropBySeed(int f, int seed, int n) {
        startNow(f, canonOf(f));
        int drawn = seed;
        for (int d = 1; d <= n; d++) {
            drawn = draw(drawn);
            if (course.pass(isCalm(drawn))) {
                return d;
            }
        }
        return NOTHING;
    }

    private static int draw(int seed) {
        return (75 * seed + 74) % SEEDS;
    }

    private boolean isCalm(int drawn) {
        return drawn % 100 < plan.calm;
    }

    // ---- canons given faces

    private boolean couldHave(int c, int f) {
        int has = canonOf(f);
        return !now.hasFallen(f) && (has == c || has == NOTHING);
    }

    /** How often a face, had by a canon, lets go within n days, and FALL_WEIGHT more if it falls. */
    private int costOf(int f, int c, int n) {
        if (now.hasFallen(f)) {
            return 0;
        }
        startNow(f, c);
        course.passAll(n);
        return course.drops + (course.holds == 0 ? FALL_WEIGHT : 0);
    }

    private int costIf(int c, int given, int n) {
        int sum = 0;
        for (int f = 0; f < plan.faces; f++) {
            int has = canonOf(f);
            if (f == given) {
                has = c;
            } else if (has == c) {
                has = NOTHING;
            }
            sum += costOf(f, has, n);
        }
        return sum;
    }

    private boolean tooFewFaces() {
        int left = 0;
        for (int f = 0; f < plan.faces; f++) {
            if (!now.hasFallen(f)) {
                left++;
            }
        }
        return left < plan.canons;
    }

    private void makeMatch(int n) {
        matching.clear(plan.faces, plan.canons);
        for (int f = 0; f < plan.faces; f++) {
            if (now.hasFallen(f)) {
                continue;
            }
            matching.addFace(f, costOf(f, NOTHING, n));
            for (int c = 0; c < plan.canons; c++) {
                matching.setCost(f, c, costOf(f, c, n));
            }
        }
        matching.solve();
    }

    // ---- walkers

    private int wayCost(int w, int n) {
        foretellWet(n);
        ways.measure(plan, wetOn[n], plan.to[w]);
        return ways.cost[plan.from[w]];
    }

    private int stepsTogether(int open) {
        int sum = 0;
        for (int w = 0; w < plan.walkers; w++) {
            int each = ways.fewest(plan, open, plan.from[w], plan.to[w]);
            sum += each == NOTHING ? NO_WAY_STEPS : each;
        }
        return sum;
    }

    // ---- sets of unsure canons

    /** All sets that fit, a bit for each: bit s stands for the set whose bits are s. */
    private int fittingSets() {
        int fitting = 0;
        for (int set = 0; set < 1 << plan.unsures; set++) {
            if (setFits(set)) {
                fitting |= 1 << set;
            }
        }
        return fitting;
    }

    private boolean setFits(int set) {
        for (int f = 0; f < plan.faces; f++) {
            if (!dropFits(f, set)) {
                return false;
            }
        }
        return true;
    }

    private boolean dropFits(int f, int set) {
        if (plan.dropDay[f] == 0) {
            return true;
        }
        int c = plan.toldCanonOf(f);
        course.start(plan, f, c, c < 0 ? 0 : plan.vexedBy(c, set));
        return course.firstDrop(LAST_DROP_DAY) == plan.dropDay[f];
    }

    private static int setsWith(int fitting, int u) {
        int count = 0;
        for (int set = 0; set < 1 << MOST_UNSURE; set++) {
            if ((fitting >> set & 1) != 0 && (set >> u & 1) != 0) {
                count++;
            }
        }
        return count;
    }

    private static int leftAtMost(int fitting, int u) {
        int with = setsWith(fitting, u);
        return Math.max(with, Integer.bitCount(fitting) - with);
    }

    private int bestToAsk(int fitting) {
        if (fitting == 0) {
            return NOTHING;
        }
        int best = NOTHING;
        int least = 0;
        for (int u = 0; u < plan.unsures; u++) {
            int left = leftAtMost(fitting, u);
            if (best == NOTHING || left < least) {
                least = left;
                best = u;
            }
        }
        return best;
    }

    // ---- the game of canon and bread

    private static int share(int ears, int sulk, int burnt, boolean ofBread) {
        if (sulk == 1) {
            if (ofBread) {
                return burnt == 1 ? 1 : 2;
            }
            return burnt == 1 ? 3 - ears : -ears;
        }
        if (ofBread) {
            return burnt == 1 ? 3 : 0;
        }
        return burnt == 1 ? 0 : 2;
    }

    private static boolean isRest(int ears, int sulk, int burnt) {
        return share(ears, sulk, burnt, false) >= share(ears, 1 - sulk, burnt, false)
            && share(ears, sulk, burnt, true) >= share(ears, sulk, 1 - burnt, true);
    }

    // ---- chances

    /** Sums over all rows of calm and other days; weights are in lowest terms so that they fit a long. */
    private long chance(int f, int n, boolean lower, boolean ofBurden) {
        answer(0);
        long common = greatestDivisor(plan.calm, 100);
        long calmPart = plan.calm / common;
        long allParts = 100 / common;
        long upper = 0;
        for (int calms = 0; calms < 1 << n; calms++) {
            long weight = 1;
            startNow(f, canonOf(f));
            for (int d = 0; d < n; d++) {
                boolean calm = (calms >> d & 1) != 0;
                course.pass(calm);
                weight *= calm ? calmPart : allParts - calmPart;
            }
            int counted = course.drops > 0 ? 1 : 0;
            upper += weight * (ofBurden ? course.bears : counted);
        }
        long whole = 1;
        for (int d = 0; d < n; d++) {
            whole *= allParts;
        }
        long divisor = greatestDivisor(upper, whole);
        return (lower ? whole : upper) / divisor;
    }

    /** At least 1, so that one may divide by it. */
    private static long greatestDivisor(long a, long b) {
        long high = a;
        long low = b;
        for (int turn = 0; turn < 200 && low != 0; turn++) {
            long rest = high % low;
            high = low;
            low = rest;
        }
        return Math.max(1, high);
    }

    private void keep() {
        kept[keptNext].copy(now);
        keptNext = (keptNext + 1) % UNDOS;
        keptCount = Math.min(keptCount + 1, UNDOS);
    }

    /** What a text told; it stays so until another close is read. */
    private static final class Plan {
        int wide;
        int deep;
        int calm;
        int walls;
        int faces;
        final int[] kind = new int[MOST_FACES];
        final int[] holds = new int[MOST_FACES];
        final int[] wears = new int[MOST_FACES];
        final int[] at = new int[MOST_FACES];
        final int[] dropDay = new int[MOST_FACES];
        int canons;
        final int[] faceOf = new int[MOST_CANONS];
        final int[] vexed = new int[MOST_CANONS];
        final int[] every = new int[MOST_CANONS];
        int walkers;
        final int[] from = new int[MOST_WALKERS];
        final int[] to = new int[MOST_WALKERS];
        int unsures;
        final int[] unsure = new int[MOST_UNSURE];
        final int[] otherwise = new int[MOST_UNSURE];

        void clear() {
            wide = 0;
            deep = 0;
            calm = 0;
            walls = 0;
            faces = 0;
            canons = 0;
            walkers = 0;
            unsures = 0;
            for (int f = 0; f < MOST_FACES; f++) {
                dropDay[f] = 0;
            }
        }

        int cells() {
            return wide * deep;
        }

        boolean isWall(int k) {
            return (walls >> k & 1) != 0;
        }

        int wallCount() {
            return Integer.bitCount(walls);
        }

        /** The cells that are no walls, as bits. */
        int open() {
            return (1 << cells()) - 1 & ~walls;
        }

        int faceOver(int k) {
            for (int f = 0; f < faces; f++) {
                if (at[f] == k) {
                    return f;
                }
            }
            return NOTHING;
        }

        int toldCanonOf(int f) {
            for (int c = 0; c < canons; c++) {
                if (faceOf[c] == f) {
                    return c;
                }
            }
            return NOTHING;
        }

        int unsureOf(int c) {
            for (int u = 0; u < unsures; u++) {
                if (unsure[u] == c) {
                    return u;
                }
            }
            return NOTHING;
        }

        /** How vexed a canon is, if the unsure ones of a set are otherwise vexed. */
        int vexedBy(int c, int set) {
            int u = unsureOf(c);
            return u != NOTHING && (set >> u & 1) != 0 ? otherwise[u] : vexed[c];
        }

        int droppedCount() {
            int count = 0;
            for (int f = 0; f < MOST_FACES; f++) {
                if (dropDay[f] != 0) {
                    count++;
                }
            }
            return count;
        }
    }

    /** All that acts change. */
    private static final class Moment {
        /** 0 of a face that has fallen: all others hold 1 or more. */
        final int[] holds = new int[MOST_FACES];
        final int[] bears = new int[MOST_FACES];
        final int[] drops = new int[MOST_FACES];
        final int[] faceOf = new int[MOST_CANONS];
        int days;
        int wet;

        void begin(Plan plan) {
            System.arraycopy(plan.holds, 0, holds, 0, MOST_FACES);
            System.arraycopy(plan.faceOf, 0, faceOf, 0, MOST_CANONS);
            for (int f = 0; f < MOST_FACES; f++) {
                bears[f] = 0;
                drops[f] = 0;
            }
            days = 0;
            wet = 0;
        }

        void copy(Moment other) {
            System.arraycopy(other.holds, 0, holds, 0, MOST_FACES);
            System.arraycopy(other.bears, 0, bears, 0, MOST_FACES);
            System.arraycopy(other.drops, 0, drops, 0, MOST_FACES);
            System.arraycopy(other.faceOf, 0, faceOf, 0, MOST_CANONS);
            days = other.days;
            wet = other.wet;
        }

        boolean hasFallen(int f) {
            return holds[f] == 0;
        }
    }

    /** One face through days: faces never touch one another, so each can be followed alone. */
    private static final class Course {
        int kind;
        int wears;
        int vexed;
        /** 0 if no canon has the face. */
        int every;
        int number;
        int holds;
        int bears;
        int drops;

        /** From the beginning on, with the canon given (below 0: none), so much vexed. */
        void start(Plan plan, int f, int c, int howVexed) {
            kind = plan.kind[f];
            wears = plan.wears[f];
            vexed = howVexed;
            every = c < 0 ? 0 : plan.every[c];
            number = 0;
            holds = plan.holds[f];
            bears = 0;
            drops = 0;
        }

        /** One day goes by; whether the face let go on it. */
        boolean pass(boolean calm) {
            number++;
            if (holds == 0) {
                return false;
            }
            if (!calm && every > 0 && number % every == 0) {
                bears += vexed;
            }
            int least = kind == PIG ? 2 * holds : holds;
            if (bears < least) {
                return false;
            }
            bears = kind == LION ? bears - holds : 0;
            drops++;
            holds -= wears;
            if (holds < 1) {
                holds = 0;
                bears = 0;
            }
            return true;
        }

        void passAll(int n) {
            for (int d = 1; d <= n; d++) {
                pass(false);
            }
        }

        int firstDrop(int n) {
            for (int d = 1; d <= n; d++) {
                if (pass(false)) {
                    return d;
                }
            }
            return NOTHING;
        }
    }

    /** Ways through the cells. */
    private static final class Ways {
        /** What the best way from each cell costs: WET_WEIGHT for a wet cell, 1 for a step. */
        final int[] cost = new int[MOST_CELLS];
        int wet;

        /** The cells a step away from any of these, walls among them. */
        int beside(Plan plan, int cells) {
            int west = 0;
            for (int row = 0; row < plan.deep; row++) {
                west |= 1 << row * plan.wide;
            }
            int east = west << plan.wide - 1;
            return cells >>> plan.wide | cells << plan.wide
                | (cells & ~east) << 1 | (cells & ~west) >>> 1;
        }

        /** The fewest steps over open cells, NOTHING without a way. */
        int fewest(Plan plan, int open, int from, int to) {
            int reached = 1 << from & open;
            int goal = 1 << to & open;
            for (int steps = 0; steps < MOST_CELLS; steps++) {
                if ((reached & goal) != 0) {
                    return steps;
                }
                int more = reached | beside(plan, reached) & open;
                if (more == reached) {
                    return NOTHING;
                }
                reached = more;
            }
            return NOTHING;
        }

        /** Fills in what the best way from each cell to one of them costs, on a day with wet cells. */
        void measure(Plan plan, int wetCells, int to) {
            wet = wetCells;
            for (int k = 0; k < MOST_CELLS; k++) {
                cost[k] = FAR;
            }
            cost[to] = weight(to);
            boolean changed = true;
            for (int turn = 0; turn < MOST_CELLS && changed; turn++) {
                changed = false;
                for (int k = 0; k < plan.cells(); k++) {
                    int least = leastOnward(plan, k);
                    if (!plan.isWall(k) && least < cost[k]) {
                        cost[k] = least;
                        changed = true;
                    }
                }
            }
        }

        int stepAt(Plan plan, int from, int i) {
            int k = from;
            int step = firstStep(plan, k);
            for (int gone = 0; gone < i && step != NOTHING; gone++) {
                k = next(plan, k, step);
                step = firstStep(plan, k);
            }
            return step;
        }

        private int firstStep(Plan plan, int k) {
            for (int step = 0; step < 4; step++) {
                int onward = next(plan, k, step);
                if (onward != NOTHING && cost[onward] + 1 + weight(k) == cost[k]) {
                    return step;
                }
            }
            return NOTHING;
        }

        private int leastOnward(Plan plan, int k) {
            int least = FAR;
            for (int step = 0; step < 4; step++) {
                int onward = next(plan, k, step);
                if (onward != NOTHING) {
                    least = Math.min(least, cost[onward] + 1 + weight(k));
                }
            }
            return least;
        }

        private int weight(int k) {
            return (wet >> k & 1) * WET_WEIGHT;
        }

        /** The cell behind a step, NOTHING if it is a wall or outside. */
        private int next(Plan plan, int k, int step) {
            int row = k / Math.max(1, plan.wide);
            int column = k - row * plan.wide;
            int toRow = row + (step == 2 ? 1 : 0) - (step == 0 ? 1 : 0);
            int toColumn = column + (step == 1 ? 1 : 0) - (step == 3 ? 1 : 0);
            if (toRow < 0 || toRow >= plan.deep || toColumn < 0 || toColumn >= plan.wide) {
                return NOTHING;
            }
            int onward = toRow * plan.wide + toColumn;
            return plan.isWall(onward) ? NOTHING : onward;
        }
    }

    /** Faces for all canons at the least cost; of like ones the first row stays. */
    private static final class Matching {
        /** What a canon costs with a face beyond what it costs without any. */
        final int[][] more = new int[MOST_FACES][MOST_CANONS];
        final int[] without = new int[MOST_FACES];
        final int[] row = new int[MOST_CANONS];
        final int[] best = new int[MOST_CANONS];
        int faces;
        int canons;
        /** Faces that can be given, as bits. */
        int free;
        /** What all faces cost if no canon has any. */
        int idle;
        int least;

        void clear(int faceCount, int canonCount) {
            faces = faceCount;
            canons = canonCount;
            free = 0;
            idle = 0;
            least = Integer.MAX_VALUE;
        }

        void addFace(int f, int cost) {
            without[f] = cost;
            free |= 1 << f;
            idle += cost;
        }

        void setCost(int f, int c, int cost) {
            more[f][c] = cost - without[f];
        }

        void solve() {
            place(0, free, idle);
        }

        /** Tries all faces left for canon c and those behind him; at most as deep as there are canons. */
        private void place(int c, int left, int cost) {
            if (c >= canons || c >= MOST_CANONS) {
                if (cost < least) {
                    least = cost;
                    System.arraycopy(row, 0, best, 0, MOST_CANONS);
                }
                return;
            }
            for (int f = 0; f < faces; f++) {
                if ((left >> f & 1) != 0) {
                    row[c] = f;
                    place(c + 1, left & ~(1 << f), cost + more[f][c]);
                }
            }
        }
    }

    /** The tape, and how its text is read into a plan, token by token, up to the first fault. */
    private static final class Reader {
        private static final int END = 0;
        private static final int WORD = 1;
        private static final int WHOLE = 2;
        private static final int MARK = 3;
        private static final int STRANGE = 4;

        private static final int FACE = 1;
        private static final int CANON = 2;
        private static final int WALKER = 3;

        final byte[] text = new byte[TAPE_ROOM];
        int taped;
        int length;
        Plan plan;
        /** The token at hand: its sort, where it starts, where it stops, what it says. */
        int sort;
        int start;
        int stop;
        int value;
        long letters;
        final long[] names = new long[MOST_NAMES];
        final int[] nameSorts = new int[MOST_NAMES];
        final int[] nameNumbers = new int[MOST_NAMES];
        int nameCount;
        int found;
        int foundAt;

        /** Puts four bytes behind the tape, the highest first. */
        void tape(int word) {
            for (int shift = 24; shift >= 0 && taped < TAPE_ROOM; shift -= 8) {
                text[taped] = (byte) (word >> shift);
                taped++;
            }
        }

        /** Reads the first n bytes of the tape; false behind a fault. */
        boolean reads(int n, Plan into) {
            length = Math.min(n, TAPE_ROOM);
            plan = into;
            plan.clear();
            nameCount = 0;
            found = 0;
            foundAt = 0;
            stop = 0;
            take();
            for (int lines = 0; lines <= length; lines++) {
                if (!readsLine()) {
                    return false;
                }
                if (sort == END) {
                    return plan.faces > 0 || fails(LACKS);
                }
                if (sort != MARK) {
                    return fails(FORM);
                }
                take();
            }
            return fails(FORM);
        }

        /** Every fault is told of the token at hand, so none is taken before all is said of it. */
        private boolean fails(int number) {
            found = number;
            foundAt = start;
            return false;
        }

        // -- tokens

        private void take() {
            start = stop;
            while (start < length && text[start] == ' ') {
                start++;
            }
            stop = start;
            if (start >= length) {
                sort = END;
            } else if (text[start] >= 'a' && text[start] <= 'z') {
                takeWord();
            } else if (text[start] >= '0' && text[start] <= '9') {
                takeWhole();
            } else {
                stop = start + 1;
                sort = text[start] == ';' ? MARK : STRANGE;
            }
        }

        private void takeWord() {
            letters = 0;
            while (stop < length && text[stop] >= 'a' && text[stop] <= 'z') {
                letters = letters * 32 + (text[stop] - 'a' + 1);
                stop++;
            }
            sort = stop - start <= 8 ? WORD : STRANGE;
        }

        private void takeWhole() {
            value = 0;
            while (stop < length && text[stop] >= '0' && text[stop] <= '9') {
                value = value * 10 + (text[stop] - '0');
                stop++;
            }
            sort = stop - start <= 3 ? WHOLE : STRANGE;
        }

        private boolean isWord(String word) {
            if (sort != WORD || stop - start != word.length()) {
                return false;
            }
            for (int i = 0; i < word.length(); i++) {
                if (text[start + i] != word.charAt(i)) {
                    return false;
                }
            }
            return true;
        }

        private boolean beginsLine() {
            return isWord("close") || isWord("wall") || isWord("face") || isWord("canon")
                || isWord("walker") || isWord("unsure") || isWord("dropped");
        }

        // -- lines

        private boolean readsLine() {
            if (!beginsLine()) {
                return fails(FORM);
            }
            if (isWord("close")) {
                return plan.wide > 0 ? fails(AGAIN) : readsClose();
            }
            if (plan.wide == 0) {
                return fails(LACKS);
            }
            if (isWord("wall")) {
                return readsWall();
            }
            if (isWord("face")) {
                return readsFace();
            }
            if (isWord("canon")) {
                return readsCanon();
            }
            if (isWord("walker")) {
                return readsWalker();
            }
            return isWord("unsure") ? readsUnsure() : readsDropped();
        }

        private boolean readsClose() {
            take();
            if (!labelled("wide", 2, MOST_WIDE)) {
                return false;
            }
            int wide = value;
            take();
            if (!labelled("deep", 2, MOST_DEEP)) {
                return false;
            }
            int deep = value;
            take();
            if (!labelled("calm", 0, 100)) {
                return false;
            }
            plan.wide = wide;
            plan.deep = deep;
            plan.calm = value;
            take();
            return true;
        }

        private boolean readsWall() {
            if (plan.wallCount() >= MOST_WALLS) {
                return fails(MANY);
            }
            if (plan.walkers > 0) {
                return fails(WALL);
            }
            take();
            if (!bounded(0, plan.cells() - 1)) {
                return false;
            }
            if (plan.isWall(value)) {
                return fails(AGAIN);
            }
            plan.walls |= 1 << value;
            take();
            return true;
        }

        private boolean readsFace() {
            int f = plan.faces;
            if (f >= MOST_FACES) {
                return fails(MANY);
            }
            take();
            if (!tells(FACE, f)) {
                return false;
            }
            int kind = kindHere();
            if (kind == NOTHING) {
                return fails(FORM);
            }
            plan.kind[f] = kind;
            take();
            if (!labelled("holds", 1, 99)) {
                return false;
            }
            plan.holds[f] = value;
            take();
            if (!labelled("wears", 0, 9)) {
                return false;
            }
            plan.wears[f] = value;
            take();
            if (!labelled("at", 0, plan.cells() - 1)) {
                return false;
            }
            if (plan.faceOver(value) != NOTHING) {
                return fails(AGAIN);
            }
            plan.at[f] = value;
            plan.faces++;
            take();
            return true;
        }

        private int kindHere() {
            if (isWord("bat")) {
                return BAT;
            }
            if (isWord("lion")) {
                return LION;
            }
            return isWord("pig") ? PIG : NOTHING;
        }

        private boolean readsCanon() {
            int c = plan.canons;
            if (c >= MOST_CANONS) {
                return fails(MANY);
            }
            take();
            if (!tells(CANON, c)) {
                return false;
            }
            int f = named(FACE);
            if (f == NOTHING) {
                return false;
            }
            if (plan.toldCanonOf(f) != NOTHING) {
                return fails(AGAIN);
            }
            plan.faceOf[c] = f;
            take();
            if (!labelled("vexed", 1, MOST_VEXED)) {
                return false;
            }
            plan.vexed[c] = value;
            take();
            if (!labelled("every", 1, 9)) {
                return false;
            }
            plan.every[c] = value;
            plan.canons++;
            take();
            return true;
        }

        private boolean readsWalker() {
            int w = plan.walkers;
            if (w >= MOST_WALKERS) {
                return fails(MANY);
            }
            take();
            if (!tells(WALKER, w) || !labelled("from", 0, plan.cells() - 1)) {
                return false;
            }
            if (plan.isWall(value)) {
                return fails(WALL);
            }
            plan.from[w] = value;
            take();
            if (!labelled("to", 0, plan.cells() - 1)) {
                return false;
            }
            if (plan.isWall(value)) {
                return fails(WALL);
            }
            plan.to[w] = value;
            plan.walkers++;
            take();
            return true;
        }

        private boolean readsUnsure() {
            int u = plan.unsures;
            if (u >= MOST_UNSURE) {
                return fails(MANY);
            }
            take();
            int c = named(CANON);
            if (c == NOTHING) {
                return false;
            }
            if (plan.unsureOf(c) != NOTHING) {
                return fails(AGAIN);
            }
            take();
            if (!bounded(1, MOST_VEXED)) {
                return false;
            }
            plan.unsure[u] = c;
            plan.otherwise[u] = value;
            plan.unsures++;
            take();
            return true;
        }

        private boolean readsDropped() {
            take();
            int f = named(FACE);
            if (f == NOTHING) {
                return false;
            }
            if (plan.dropDay[f] != 0) {
                return fails(AGAIN);
            }
            take();
            if (!labelled("day", 1, LAST_DROP_DAY)) {
                return false;
            }
            plan.dropDay[f] = value;
            take();
            return true;
        }

        // -- parts of lines

        /** Takes a label; the WHOLE behind it stays at hand. */
        private boolean labelled(String label, int least, int most) {
            if (!isWord(label)) {
                return fails(FORM);
            }
            take();
            return bounded(least, most);
        }

        private boolean bounded(int least, int most) {
            if (sort != WHOLE) {
                return fails(FORM);
            }
            return within(value, least, most) || fails(OUT_OF_BOUNDS);
        }

        /** Takes a new name. */
        private boolean tells(int nameSort, int number) {
            if (sort != WORD || beginsLine() || nameCount >= MOST_NAMES) {
                return fails(FORM);
            }
            if (nameAt() != NOTHING) {
                return fails(AGAIN);
            }
            names[nameCount] = letters;
            nameSorts[nameCount] = nameSort;
            nameNumbers[nameCount] = number;
            nameCount++;
            take();
            return true;
        }

        /** The number of what is named, NOTHING behind a fault; the name stays at hand. */
        private int named(int nameSort) {
            if (sort != WORD || beginsLine()) {
                fails(FORM);
                return NOTHING;
            }
            int i = nameAt();
            if (i == NOTHING || nameSorts[i] != nameSort) {
                fails(UNTOLD);
                return NOTHING;
            }
            return nameNumbers[i];
        }

        private int nameAt() {
            for (int i = 0; i < nameCount; i++) {
                if (names[i] == letters) {
                    return i;
                }
            }
            return NOTHING;
        }
    }
}
