import java.util.Arrays;

/** Icicles at the edges of roofs: how long they get, when they fall, and what can be told of them. */
public final class IcicleEaves {
    public static final int NONE = -1, BAD = -2, NO = -3, FULL = -4;

    private static final int BAD_MORE = -100, BAD_ROW = -10, NOT_SO_MANY = -5, FAULT_BASE = -10;
    private static final int KINDS = 6, ROUND = 8, COLDEST = -9, WARMEST = 9, WARMTH_FIRST = -1;
    private static final int LAST_HOUR = 9999, HOURS_MOST = 96, HOURS_TOLD_MOST = 99;
    private static final int ROOFS_MOST = 3, HEAT_MOST = 9, HEATS = 10, SNOW_MOST = 60;
    private static final int ICICLES_MOST = 6, PLACES = 8, LONG_MOST = 30, ROOT_MOST = 40;
    private static final int KNOCKED = 1, FALLEN = 2, GONE = 3;
    private static final int TEXT_MOST = 150, BYTE_MOST = 127;
    private static final int PATH_LATEST = 24, LEAST_HOURS = 48, PEAK_HOURS = 48;
    private static final int KNOCK_HOURS = 4, NO_KNOCK = 6, CHOICES = 7;
    private static final int SEEN_MOST = 5, NOTES_MOST = 6, MARKS_MOST = 6, UNDO_MOST = 8;
    private static final int NOTE_WATER_MOST = 20, MORE_LEAST = -30, MORE_MOST = 50;
    private static final int STICK_ONE = 2, STICK_OTHER = 3;
    private static final int ODDS_HOURS = 6, ODDS_OF = 10, ODDS_WARMER = 3;
    private static final int SEED_MOST = 999999, WINTERS_MOST = 60;
    private static final int IMAGES = 2, COUNTS = 12;

    private final House live = new House();
    private final House[] images = new House[IMAGES];
    private final boolean[] kept = new boolean[IMAGES];
    private final Text text = new Text();
    private final int[] refused = new int[3];
    private long above = 0;
    private long below = 1;

    // What is worked out on the way: made once, as all calls share one room.
    private final Eaves trial = new Eaves();
    private final int[] falls = new int[ICICLES_MOST];
    private final int[] lengths = new int[KNOCK_HOURS * ICICLES_MOST];
    private final Guess heatGuess = new HeatGuess();
    private final Guess icicleGuess = new IcicleGuess();
    private final Guess roofGuess = new RoofGuess();

    public IcicleEaves() {
        for (int i = 0; i < IMAGES; i++) {
            images[i] = new House();
        }
    }

    // ---- a house

    public int house(int w) {
        if (!within(w, COLDEST, WARMEST)) {
            return bad();
        }
        int before = live.eaves.icicles;
        live.begin(w);
        return before;
    }

    public int warm(int h, int w) {
        if (!within(h, 0, ROUND - 1) || !within(w, COLDEST, WARMEST)) {
            return bad();
        }
        live.eaves.warmths[h] = w;
        live.past.empty();
        return 1;
    }

    public int roof(int kind, int heat, int snow) {
        if (!isKind(kind) || !within(heat, 0, HEAT_MOST) || !within(snow, 0, SNOW_MOST)) {
            return bad();
        }
        if (live.eaves.roofs >= ROOFS_MOST) {
            return full();
        }
        live.past.empty();
        return live.eaves.addRoof(kind, heat, snow);
    }

    public int ice(int r, int kind, int place, int l, int root) {
        if (!isRoof(r) || !isKind(kind) || !within(place, 0, PLACES - 1)
                || !within(l, 1, LONG_MOST) || !within(root, 1, ROOT_MOST)) {
            return bad();
        }
        if (live.eaves.icicles >= ICICLES_MOST) {
            return full();
        }
        live.past.empty();
        return live.eaves.addIcicle(r, kind, place, l, root);
    }

    public int type(int c) {
        if (!within(c, 0, BYTE_MOST)) {
            return bad();
        }
        return text.append(c) ? text.size : full();
    }

    public int clear() {
        int before = text.size;
        text.size = 0;
        return before;
    }

    public int read() {
        int items = text.readInto(trial);
        if (items == NONE) {
            return FAULT_BASE - text.start;
        }
        live.begin(WARMTH_FIRST);
        live.eaves.take(trial);
        return items;
    }

    // ---- hours

    public int hours(int n) {
        if (!within(n, 1, HOURS_MOST)) {
            return bad();
        }
        live.remember();
        live.eaves.passHours(n);
        return live.eaves.hanging();
    }

    public int snows(int r, int n) {
        if (!isRoof(r) || !within(n, 1, SNOW_MOST)) {
            return bad();
        }
        if (live.eaves.snow[r] >= SNOW_MOST) {
            return no();
        }
        live.remember();
        live.eaves.addSnow(r, n);
        return live.eaves.snow[r];
    }

    public int heats(int r, int e) {
        if (!isRoof(r) || !within(e, 0, HEAT_MOST)) {
            return bad();
        }
        int before = live.eaves.heat[r];
        if (before == e) {
            return no();
        }
        live.remember();
        live.eaves.heat[r] = e;
        return before;
    }

    public int knocks(int i) {
        if (!isIcicle(i)) {
            return bad();
        }
        if (live.eaves.lost[i] != 0) {
            return no();
        }
        live.remember();
        live.eaves.lost[i] = KNOCKED;
        return live.eaves.length[i];
    }

    public int undo() {
        if (live.past.size() == 0) {
            return no();
        }
        live.goBack();
        return live.eaves.hour;
    }

    public int of(int i, int what) {
        if (!isIcicle(i) || !within(what, 0, 5)) {
            return bad();
        }
        return live.eaves.ofIcicle(i, what);
    }

    public int more(int i) {
        if (!isIcicle(i)) {
            bad();
            return BAD_MORE;
        }
        return live.eaves.moreNext(i);
    }

    public int about(int r, int what) {
        if (!isRoof(r) || !within(what, 0, 3)) {
            return bad();
        }
        return live.eaves.ofRoof(r, what);
    }

    public int warmth(int h) {
        if (!within(h, 0, ROUND - 1)) {
            return bad();
        }
        return live.eaves.warmths[h] - COLDEST;
    }

    // ---- what falls

    public int ahead(int i, int m, int what) {
        if (!isIcicle(i) || !within(m, 0, HOURS_MOST) || !within(what, 0, 1)) {
            return bad();
        }
        trial.take(live.eaves);
        for (int t = 0; t < m; t++) {
            trial.passHour(0);
        }
        return what == 0 ? trial.length[i] : trial.lost[i];
    }

    public int fall(int i) {
        if (!isIcicle(i)) {
            return bad();
        }
        findFalls(HOURS_MOST);
        return falls[i];
    }

    public int first() {
        findFalls(HOURS_MOST);
        int best = NONE;
        for (int i = 0; i < live.eaves.icicles; i++) {
            if (falls[i] != NONE && (best == NONE || falls[i] < falls[best])) {
                best = i;
            }
        }
        return best;
    }

    public int order(int k) {
        if (k < 0) {
            return bad();
        }
        if (k >= live.eaves.hanging()) {
            return no();
        }
        findFalls(HOURS_MOST);
        int found = NONE;
        for (int i = 0; i < live.eaves.icicles && found == NONE; i++) {
            if (live.eaves.lost[i] == 0 && earlierOnes(i) == k) {
                found = i;
            }
        }
        return found;
    }

    public int path() {
        findFalls(PATH_LATEST + PLACES);
        for (int b = 0; b <= PATH_LATEST; b++) {
            if (!hitsOnPath(b)) {
                return b;
            }
        }
        return NONE;
    }

    public int least(int r) {
        if (!isRoof(r)) {
            return bad();
        }
        for (int e = 0; e <= HEAT_MOST; e++) {
            trial.take(live.eaves);
            trial.heat[r] = e;
            runFalls(LEAST_HOURS);
            if (!anyFallsOn(r)) {
                return e;
            }
        }
        return NONE;
    }

    public int peak(int i, int what) {
        if (!isIcicle(i) || !within(what, 0, 1)) {
            return bad();
        }
        if (live.eaves.lost[i] != 0) {
            return NONE;
        }
        trial.take(live.eaves);
        int when = 0;
        int longest = trial.length[i];
        for (int t = 1; t <= PEAK_HOURS; t++) {
            trial.passHour(0);
            if (trial.lost[i] == 0 && trial.length[i] > longest) {
                longest = trial.length[i];
                when = t;
            }
        }
        return what == 0 ? when : longest;
    }

    public int most(int n, int k) {
        if (!within(n, 1, KNOCK_HOURS) || k < NONE) {
            bad();
            return BAD_ROW;
        }
        if (k >= n) {
            return NOT_SO_MANY;
        }
        findLengths(n);
        int rows = 1;
        for (int t = 0; t < n; t++) {
            rows *= CHOICES;
        }
        int best = 0;
        int bestSum = NONE;
        for (int row = 0; row < rows; row++) {
            int sum = knockedSum(row, n);
            if (sum > bestSum) {
                best = row;
                bestSum = sum;
            }
        }
        return k == NONE ? bestSum : choiceOf(best, n, k);
    }

    // ---- how warm

    public int seen(int r, int w, int s, int q) {
        if (!isRoof(r) || !within(w, COLDEST, WARMEST)
                || !within(s, 0, SNOW_MOST) || !within(q, 0, SNOW_MOST)) {
            return bad();
        }
        if (live.seen.isFull()) {
            return full();
        }
        live.seen.write(r);
        live.seen.write(w);
        live.seen.write(s);
        live.seen.write(q);
        return live.seen.size();
    }

    public int warms(int r) {
        return isRoof(r) ? heatGuess.fitting(live, r) : bad();
    }

    public int tell(int r) {
        return isRoof(r) ? heatGuess.bestLook(live, r) : bad();
    }

    public int note(int i, int l, int w, int q, int x) {
        if (!isIcicle(i) || !within(l, 1, LONG_MOST) || !within(w, COLDEST, WARMEST)
                || !within(q, 0, NOTE_WATER_MOST) || !within(x, MORE_LEAST, MORE_MOST)) {
            return bad();
        }
        if (live.notes.isFull()) {
            return full();
        }
        live.notes.write(i);
        live.notes.write(l);
        live.notes.write(w);
        live.notes.write(q);
        live.notes.write(x);
        return live.notes.size();
    }

    public int mark(int r, int e, int w, int s, int q) {
        if (!isRoof(r) || !within(e, 0, HEAT_MOST) || !within(w, COLDEST, WARMEST)
                || !within(s, 0, SNOW_MOST) || !within(q, 0, SNOW_MOST)) {
            return bad();
        }
        if (live.marks.isFull()) {
            return full();
        }
        live.marks.write(r);
        live.marks.write(e);
        live.marks.write(w);
        live.marks.write(s);
        live.marks.write(q);
        return live.marks.size();
    }

    public int forget(int what) {
        switch (what) {
            case 0: return live.seen.empty();
            case 1: return live.notes.empty();
            case 2: return live.marks.empty();
            default: return bad();
        }
    }

    public int is(int i) {
        return isIcicle(i) ? icicleGuess.fitting(live, i) : bad();
    }

    public int look(int i) {
        return isIcicle(i) ? icicleGuess.bestLook(live, i) : bad();
    }

    public int kinds(int r) {
        return isRoof(r) ? roofGuess.fitting(live, r) : bad();
    }

    public int ask(int r) {
        return isRoof(r) ? roofGuess.bestLook(live, r) : bad();
    }

    public int sticks(int k) {
        if (k < NONE) {
            bad();
            return BAD_ROW;
        }
        findLengths(STICK_OTHER + 1);
        int found = 0;
        for (int i = 0; i < live.eaves.icicles; i++) {
            for (int j = 0; j < live.eaves.icicles; j++) {
                if (rests(i, j)) {
                    if (found == k) {
                        return 10 * i + j;
                    }
                    found++;
                }
            }
        }
        return k == NONE ? found : NOT_SO_MANY;
    }

    public int odds(int i, int n, int c) {
        if (!isIcicle(i) || !within(n, 0, ODDS_HOURS) || !within(c, 0, ODDS_OF)) {
            return bad();
        }
        long all = 1;
        for (int t = 0; t < n; t++) {
            all *= ODDS_OF;
        }
        long falling = 0;
        for (int warmOnes = 0; warmOnes < 1 << n; warmOnes++) {
            if (fallsInHours(i, n, warmOnes)) {
                falling += weight(n, c, warmOnes);
            }
        }
        keepFraction(falling, all);
        return 1;
    }

    public int winters(int seed, int n) {
        if (!within(seed, 0, SEED_MOST) || !within(n, 0, WINTERS_MOST)) {
            return bad();
        }
        trial.take(live.eaves);
        int before = Integer.bitCount(trial.lostBits(FALLEN));
        long x = seed;
        for (int t = 0; t < n; t++) {
            x = (x * 1103515245L + 12345L) % 2147483648L;
            int r = (int) (x / 65536L % 3L);
            if (r < trial.roofs) {
                trial.addSnow(r, (int) (x / 1048576L % 6L));
            }
            trial.passHour(0);
        }
        return Integer.bitCount(trial.lostBits(FALLEN)) - before;
    }

    // ---- what there is

    public long part(int what) {
        switch (what) {
            case 0: return above;
            case 1: return below;
            default: return bad();
        }
    }

    public int image(int i) {
        if (!within(i, 0, IMAGES - 1)) {
            return bad();
        }
        images[i].take(live);
        kept[i] = true;
        return 1;
    }

    public int from(int i) {
        if (!within(i, 0, IMAGES - 1)) {
            return bad();
        }
        if (!kept[i]) {
            return no();
        }
        live.take(images[i]);
        return 1;
    }

    public int status(int what) {
        if (!within(what, 0, 2)) {
            bad();
            return -1;
        }
        return refused[what];
    }

    public int count(int what) {
        switch (what) {
            case 0: return live.eaves.roofs;
            case 1: return live.eaves.icicles;
            case 2: return live.eaves.hour;
            case 3: return live.eaves.lostBits(KNOCKED);
            case 4: return live.eaves.lostBits(FALLEN);
            case 5: return live.eaves.lostBits(GONE);
            case 6: return live.eaves.allSnow();
            case 7: return live.seen.size();
            case 8: return live.notes.size();
            case 9: return live.marks.size();
            case 10: return live.past.size();
            case 11: return text.size;
            default: return bad();
        }
    }

    public long digest() {
        long h = 1831;
        for (int what = 0; what < COUNTS; what++) {
            h = 31 * h + count(what);
        }
        h = live.eaves.digestOn(h);
        h = live.seen.digestOn(h);
        h = live.notes.digestOn(h);
        h = live.marks.digestOn(h);
        return 31 * (31 * h + above) + below;
    }

    // ---- what is refused

    private int bad() {
        refused[0]++;
        return BAD;
    }

    private int no() {
        refused[1]++;
        return NO;
    }

    private int full() {
        refused[2]++;
        return FULL;
    }

    private static boolean within(int n, int low, int high) {
        return n >= low && n <= high;
    }

    private static boolean isKind(int kind) {
        return within(kind, 0, KINDS - 1);
    }

    private boolean isRoof(int r) {
        return within(r, 0, live.eaves.roofs - 1);
    }

    private boolean isIcicle(int i) {
        return within(i, 0, live.eaves.icicles - 1);
    }

    // ---- looking ahead

    private void findFalls(int hours) {
        trial.take(live.eaves);
        runFalls(hours);
    }

    /** Runs the trial as it stands now and writes behind how many hours each icicle falls. */
    private void runFalls(int hours) {
        Arrays.fill(falls, NONE);
        for (int t = 1; t <= hours; t++) {
            trial.passHour(0);
            for (int i = 0; i < trial.icicles; i++) {
                if (live.eaves.lost[i] == 0 && trial.lost[i] == FALLEN && falls[i] == NONE) {
                    falls[i] = t;
                }
            }
        }
    }

    private int earlierOnes(int i) {
        int earlier = 0;
        for (int j = 0; j < live.eaves.icicles; j++) {
            if (live.eaves.lost[j] == 0 && comesBefore(j, i)) {
                earlier++;
            }
        }
        return earlier;
    }

    private boolean comesBefore(int j, int i) {
        int one = falls[j] == NONE ? HOURS_MOST + 1 : falls[j];
        int other = falls[i] == NONE ? HOURS_MOST + 1 : falls[i];
        return one < other || one == other && j < i;
    }

    private boolean hitsOnPath(int b) {
        for (int i = 0; i < live.eaves.icicles; i++) {
            if (falls[i] != NONE && falls[i] == b + live.eaves.place[i] + 1) {
                return true;
            }
        }
        return false;
    }

    private boolean anyFallsOn(int r) {
        for (int i = 0; i < live.eaves.icicles; i++) {
            if (live.eaves.roofOf[i] == r && falls[i] != NONE) {
                return true;
            }
        }
        return false;
    }

    /** Writes how long each icicle is behind 0 .. n - 1 hours, NONE where it is lost by then. */
    private void findLengths(int n) {
        trial.take(live.eaves);
        for (int t = 0; t < n && t < KNOCK_HOURS; t++) {
            for (int i = 0; i < ICICLES_MOST; i++) {
                boolean hangs = i < trial.icicles && trial.lost[i] == 0;
                lengths[t * ICICLES_MOST + i] = hangs ? trial.length[i] : NONE;
            }
            trial.passHour(0);
        }
    }

    private int lengthBehind(int t, int i) {
        return lengths[t * ICICLES_MOST + i];
    }

    // ---- knocking

    /** A row of choices is one number of n figures by 7, so that rising numbers are rising rows. */
    private int knockedSum(int row, int n) {
        int rest = row;
        int used = 0;
        int sum = 0;
        for (int t = n - 1; t >= 0; t--) {
            int choice = rest % CHOICES;
            rest /= CHOICES;
            if (choice != NO_KNOCK) {
                int l = lengthBehind(t, choice);
                if (l == NONE || (used >> choice & 1) != 0) {
                    return NONE;
                }
                used |= 1 << choice;
                sum += l;
            }
        }
        return sum;
    }

    private static int choiceOf(int row, int n, int k) {
        int rest = row;
        for (int t = n - 1; t > k; t--) {
            rest /= CHOICES;
        }
        return rest % CHOICES;
    }

    private boolean rests(int i, int j) {
        if (lengthBehind(0, i) == NONE || lengthBehind(0, j) == NONE) {
            return false;
        }
        for (int other = 0; other < live.eaves.icicles; other++) {
            if (lengthBehind(0, other) != NONE
                    && (lengthBehind(STICK_ONE, other) > lengthBehind(STICK_ONE, i)
                    || otherGets(i, other) > otherGets(i, j))) {
                return false;
            }
        }
        return true;
    }

    private int otherGets(int i, int j) {
        return i == j ? NONE : lengthBehind(STICK_OTHER, j);
    }

    // ---- chances

    private boolean fallsInHours(int i, int n, int warmOnes) {
        if (live.eaves.lost[i] != 0) {
            return false;
        }
        trial.take(live.eaves);
        for (int t = 0; t < n; t++) {
            trial.passHour((warmOnes >> t & 1) * ODDS_WARMER);
        }
        return trial.lost[i] == FALLEN;
    }

    private static long weight(int n, int c, int warmOnes) {
        long product = 1;
        for (int t = 0; t < n; t++) {
            product *= (warmOnes >> t & 1) != 0 ? c : ODDS_OF - c;
        }
        return product;
    }

    private void keepFraction(long top, long bottom) {
        long a = top;
        long b = bottom;
        // Euclid's steps on numbers up to a million are far fewer than these.
        for (int step = 0; step < 100 && b != 0; step++) {
            long rest = a % b;
            a = b;
            b = rest;
        }
        if (a != 0) {
            above = top / a;
            below = bottom / a;
        }
    }

    /** Rows of numbers, all of one width, written one number behind the other up to a bound. */
    private static final class Rows {
        private final int width;
        private final int[] cells;
        private int filled = 0;

        Rows(int bound, int width) {
            this.width = Math.max(1, width);
            this.cells = new int[Math.max(0, bound) * this.width];
        }

        int size() {
            return filled / width;
        }

        boolean isFull() {
            return filled >= cells.length;
        }

        int at(int row, int column) {
            int cell = row * width + column;
            return cell >= 0 && cell < filled ? cells[cell] : 0;
        }

        int lastOf(int row) {
            return at(row, width - 1);
        }

        void write(int v) {
            if (!isFull()) {
                cells[filled] = v;
                filled++;
            }
        }

        int empty() {
            int before = size();
            filled = 0;
            return before;
        }

        void dropFirst() {
            if (filled >= width) {
                System.arraycopy(cells, width, cells, 0, filled - width);
                filled -= width;
            }
        }

        void dropLast() {
            filled = Math.max(0, filled - width);
        }

        void take(Rows other) {
            System.arraycopy(other.cells, 0, cells, 0, Math.min(cells.length, other.filled));
            filled = Math.min(cells.length, other.filled);
        }

        long digestOn(long h) {
            long sum = h;
            for (int k = 0; k < filled; k++) {
                sum = 31 * sum + cells[k];
            }
            return sum;
        }
    }

    /** All that an image keeps: the eaves, what was told of them, and what may be undone. */
    private static final class House {
        private static final int PAST_WIDTH = 1 + 2 * ROOFS_MOST + 2 * ICICLES_MOST;

        final Eaves eaves = new Eaves();
        final Rows seen = new Rows(SEEN_MOST, 4);
        final Rows notes = new Rows(NOTES_MOST, 5);
        final Rows marks = new Rows(MARKS_MOST, 5);
        final Rows past = new Rows(UNDO_MOST, PAST_WIDTH);

        void begin(int w) {
            eaves.begin(w);
            seen.empty();
            notes.empty();
            marks.empty();
            past.empty();
        }

        void take(House other) {
            eaves.take(other.eaves);
            seen.take(other.seen);
            notes.take(other.notes);
            marks.take(other.marks);
            past.take(other.past);
        }

        void remember() {
            if (past.isFull()) {
                past.dropFirst();
            }
            past.write(eaves.hour);
            for (int r = 0; r < ROOFS_MOST; r++) {
                past.write(eaves.heat[r]);
                past.write(eaves.snow[r]);
            }
            for (int i = 0; i < ICICLES_MOST; i++) {
                past.write(eaves.length[i]);
                past.write(eaves.lost[i]);
            }
        }

        void goBack() {
            int row = past.size() - 1;
            int column = 0;
            eaves.hour = past.at(row, column++);
            for (int r = 0; r < ROOFS_MOST; r++) {
                eaves.heat[r] = past.at(row, column++);
                eaves.snow[r] = past.at(row, column++);
            }
            for (int i = 0; i < ICICLES_MOST; i++) {
                eaves.length[i] = past.at(row, column++);
                eaves.lost[i] = past.at(row, column++);
            }
            past.dropLast();
        }
    }

    /** Roofs and icicles at an hour, and how an hour goes by. */
    private static final class Eaves {
        int hour = 0;
        final int[] warmths = new int[ROUND];
        int roofs = 0;
        final int[] roofKind = new int[ROOFS_MOST];
        final int[] heat = new int[ROOFS_MOST];
        final int[] snow = new int[ROOFS_MOST];
        final int[] water = new int[ROOFS_MOST];
        int icicles = 0;
        final int[] roofOf = new int[ICICLES_MOST];
        final int[] iceKind = new int[ICICLES_MOST];
        final int[] place = new int[ICICLES_MOST];
        final int[] length = new int[ICICLES_MOST];
        final int[] root = new int[ICICLES_MOST];
        final int[] lost = new int[ICICLES_MOST];

        Eaves() {
            Arrays.fill(warmths, WARMTH_FIRST);
        }

        /** How much water comes from a roof of a kind in an hour of warmth w by heat e and snow s. */
        static int waterOf(int kind, int w, int e, int s) {
            int plain = Math.min(Math.max(w + e, 0), s);
            int slate = plain == 0 ? 0 : Math.min(plain + 2, s);
            int thatch = plain / 2;
            switch (kind) {
                case 1: return slate;
                case 2: return thatch;
                case 3: return w < -4 ? 0 : slate;
                case 4: return s % 2 != 0 ? Math.max(thatch - 1, 0) : thatch;
                case 5: return s > 40 ? s : plain;
                default: return plain;
            }
        }

        /** By how much an icicle of a kind, long l, is longer behind an hour of warmth w by water q. */
        static int moreOf(int kind, int l, int w, int q) {
            int plain = w < 0 ? q : -w;
            int fat = plain / 2;
            int thin = plain > 0 ? plain + 1 : plain;
            switch (kind) {
                case 1: return fat;
                case 2: return thin;
                case 3: return fat > 0 && l > 20 ? 0 : fat;
                case 4: return w > 0 ? plain - 2 : plain;
                case 5: return l % 5 == 0 ? 2 * thin : thin;
                default: return plain;
            }
        }

        void begin(int w) {
            hour = 0;
            Arrays.fill(warmths, w);
            roofs = 0;
            icicles = 0;
        }

        void take(Eaves other) {
            hour = other.hour;
            roofs = other.roofs;
            icicles = other.icicles;
            System.arraycopy(other.warmths, 0, warmths, 0, ROUND);
            System.arraycopy(other.roofKind, 0, roofKind, 0, ROOFS_MOST);
            System.arraycopy(other.heat, 0, heat, 0, ROOFS_MOST);
            System.arraycopy(other.snow, 0, snow, 0, ROOFS_MOST);
            System.arraycopy(other.roofOf, 0, roofOf, 0, ICICLES_MOST);
            System.arraycopy(other.iceKind, 0, iceKind, 0, ICICLES_MOST);
            System.arraycopy(other.place, 0, place, 0, ICICLES_MOST);
            System.arraycopy(other.length, 0, length, 0, ICICLES_MOST);
            System.arraycopy(other.root, 0, root, 0, ICICLES_MOST);
            System.arraycopy(other.lost, 0, lost, 0, ICICLES_MOST);
        }

        int addRoof(int kind, int e, int s) {
            if (roofs >= ROOFS_MOST) {
                return FULL;
            }
            roofKind[roofs] = kind;
            heat[roofs] = e;
            snow[roofs] = s;
            roofs++;
            return roofs - 1;
        }

        int addIcicle(int r, int kind, int over, int l, int holds) {
            if (icicles >= ICICLES_MOST) {
                return FULL;
            }
            roofOf[icicles] = r;
            iceKind[icicles] = kind;
            place[icicles] = over;
            length[icicles] = l;
            root[icicles] = holds;
            lost[icicles] = 0;
            icicles++;
            return icicles - 1;
        }

        void addSnow(int r, int n) {
            snow[r] = Math.min(snow[r] + n, SNOW_MOST);
        }

        /** Hours go by up to the last one that has a number. */
        void passHours(int n) {
            for (int t = 0; t < n && hour < LAST_HOUR; t++) {
                passHour(0);
            }
        }

        void passHour(int warmer) {
            hour++;
            int w = Math.min(warmthAt(hour) + warmer, WARMEST);
            for (int r = 0; r < roofs; r++) {
                water[r] = waterOf(roofKind[r], w, heat[r], snow[r]);
                snow[r] -= water[r];
            }
            for (int i = 0; i < icicles; i++) {
                if (lost[i] == 0) {
                    grow(i, w);
                }
            }
        }

        private void grow(int i, int w) {
            int l = length[i] + moreOf(iceKind[i], length[i], w, water[roofOf[i]]);
            length[i] = Math.max(l, 0);
            if (l <= 0) {
                lost[i] = GONE;
            } else if (l > root[i]) {
                lost[i] = FALLEN;
            }
        }

        int warmthAt(int number) {
            return warmths[Math.floorMod(number, ROUND)];
        }

        int waterNext(int r) {
            return waterOf(roofKind[r], warmthAt(hour + 1), heat[r], snow[r]);
        }

        int moreNext(int i) {
            return moreOf(iceKind[i], length[i], warmthAt(hour + 1), waterNext(roofOf[i]));
        }

        int ofRoof(int r, int what) {
            switch (what) {
                case 0: return roofKind[r];
                case 1: return heat[r];
                case 2: return snow[r];
                default: return waterNext(r);
            }
        }

        int ofIcicle(int i, int what) {
            switch (what) {
                case 0: return roofOf[i];
                case 1: return iceKind[i];
                case 2: return place[i];
                case 3: return length[i];
                case 4: return root[i];
                default: return lost[i];
            }
        }

        int hanging() {
            return Integer.bitCount(lostBits(0));
        }

        int lostBits(int how) {
            int bits = 0;
            for (int i = 0; i < icicles; i++) {
                if (lost[i] == how) {
                    bits |= 1 << i;
                }
            }
            return bits;
        }

        int allSnow() {
            int sum = 0;
            for (int r = 0; r < roofs; r++) {
                sum += snow[r];
            }
            return sum;
        }

        long digestOn(long h) {
            long sum = h;
            for (int k = 0; k < ROUND; k++) {
                sum = 31 * sum + (warmths[k] - COLDEST);
            }
            for (int r = 0; r < roofs; r++) {
                for (int what = 0; what < 3; what++) {
                    sum = 31 * sum + ofRoof(r, what);
                }
            }
            for (int i = 0; i < icicles; i++) {
                for (int what = 0; what < 6; what++) {
                    sum = 31 * sum + ofIcicle(i, what);
                }
            }
            return sum;
        }
    }

    /** What is not known of a roof or an icicle: which candidates the rows told of it leave, and what to look at next. */
    private abstract static class Guess {
        private final int[] answers;
        private final int amountMost;
        private final int warmthStep;

        /** A look is a warmth and an amount (0 .. amountMost), told as one number. */
        Guess(int candidates, int amountMost, int warmthStep) {
            this.answers = new int[Math.max(0, candidates)];
            this.amountMost = amountMost;
            this.warmthStep = warmthStep;
        }

        abstract Rows rowsOf(House house);

        /** What would have come as row k was told, were the candidate so. */
        abstract int byRow(House house, int k, int candidate);

        /** What would come of one by warmth w and an amount, were the candidate so. */
        abstract int byLook(House house, int one, int w, int amount, int candidate);

        int fitting(House house, int one) {
            int set = 0;
            for (int candidate = 0; candidate < answers.length; candidate++) {
                if (fits(house, one, candidate)) {
                    set |= 1 << candidate;
                }
            }
            return set;
        }

        private boolean fits(House house, int one, int candidate) {
            Rows rows = rowsOf(house);
            for (int k = 0; k < rows.size(); k++) {
                if (rows.at(k, 0) == one && byRow(house, k, candidate) != rows.lastOf(k)) {
                    return false;
                }
            }
            return true;
        }

        int bestLook(House house, int one) {
            int set = fitting(house, one);
            int best = NONE;
            int fewest = answers.length + 1;
            // A group of one can not be fewer, so the search ends there.
            for (int w = COLDEST; w <= WARMEST && set != 0 && fewest > 1; w++) {
                for (int amount = 0; amount <= amountMost && fewest > 1; amount++) {
                    int group = largestGroup(house, one, w, amount, set, fewest);
                    if (group < fewest) {
                        fewest = group;
                        best = warmthStep * (w - COLDEST) + amount;
                    }
                }
            }
            return best;
        }

        /** How many of the candidates in the set share the commonest of their answers; counted up to a limit. */
        private int largestGroup(House house, int one, int w, int amount, int set, int limit) {
            int largest = 0;
            for (int a = 0; a < answers.length && largest < limit; a++) {
                if ((set >> a & 1) != 0) {
                    answers[a] = byLook(house, one, w, amount, a);
                    int same = 1;
                    for (int b = 0; b < a; b++) {
                        if ((set >> b & 1) != 0 && answers[a] == answers[b]) {
                            same++;
                        }
                    }
                    largest = Math.max(largest, same);
                }
            }
            return largest;
        }
    }

    private static final class HeatGuess extends Guess {
        HeatGuess() {
            super(HEATS, 0, 1);
        }

        Rows rowsOf(House house) {
            return house.seen;
        }

        int byRow(House house, int k, int candidate) {
            Rows rows = house.seen;
            int kind = house.eaves.roofKind[rows.at(k, 0)];
            return Eaves.waterOf(kind, rows.at(k, 1), candidate, rows.at(k, 2));
        }

        int byLook(House house, int one, int w, int amount, int candidate) {
            return Eaves.waterOf(house.eaves.roofKind[one], w, candidate, house.eaves.snow[one]);
        }
    }

    private static final class IcicleGuess extends Guess {
        IcicleGuess() {
            super(KINDS, NOTE_WATER_MOST, 100);
        }

        Rows rowsOf(House house) {
            return house.notes;
        }

        int byRow(House house, int k, int candidate) {
            Rows rows = house.notes;
            return Eaves.moreOf(candidate, rows.at(k, 1), rows.at(k, 2), rows.at(k, 3));
        }

        int byLook(House house, int one, int w, int amount, int candidate) {
            return Eaves.moreOf(candidate, house.eaves.length[one], w, amount);
        }
    }

    private static final class RoofGuess extends Guess {
        RoofGuess() {
            super(KINDS, SNOW_MOST, 100);
        }

        Rows rowsOf(House house) {
            return house.marks;
        }

        int byRow(House house, int k, int candidate) {
            Rows rows = house.marks;
            return Eaves.waterOf(candidate, rows.at(k, 2), rows.at(k, 1), rows.at(k, 3));
        }

        int byLook(House house, int one, int w, int amount, int candidate) {
            return Eaves.waterOf(candidate, w, house.eaves.heat[one], amount);
        }
    }

    /** The text, and how a house is read from it token by token. */
    private static final class Text {
        private static final int END = 0, WORD = 1, NUMBER = 2, STOP = 3, OTHER = 4;

        private final byte[] bytes = new byte[TEXT_MOST];
        private int size = 0;
        /** Of the token looked at: what it is, its first byte (the fault, if it can not stand), the one behind it. */
        private int token = END;
        private int start = 0;
        private int end = 0;
        private int value = 0;
        /** Those of the item that is read. */
        private final int[] numbers = new int[5];

        boolean append(int c) {
            if (size >= TEXT_MOST) {
                return false;
            }
            bytes[size] = (byte) c;
            size++;
            return true;
        }

        /** How many items were read; NONE: the token at start can not stand there. */
        int readInto(Eaves eaves) {
            end = 0;
            // An item has a byte at least, so there are not more of them than bytes.
            for (int items = 0; items <= TEXT_MOST; items++) {
                nextToken();
                if (token == END && items > 0) {
                    return items;
                }
                if (!readItem(eaves, items == 0)) {
                    return NONE;
                }
            }
            return NONE;
        }

        private boolean readItem(Eaves eaves, boolean atFirst) {
            if (token != WORD || isWord("house") != atFirst) {
                return false;
            }
            if (atFirst) {
                return readHouse(eaves);
            }
            if (isWord("warm")) {
                return readWarm(eaves);
            }
            if (isWord("roof")) {
                return eaves.roofs < ROOFS_MOST && readRoof(eaves);
            }
            if (isWord("ice")) {
                return eaves.icicles < ICICLES_MOST && readIcicle(eaves);
            }
            return isWord("hours") && readHours(eaves);
        }

        private boolean readHouse(Eaves eaves) {
            boolean told = readNumber(0, 0, WARMEST - COLDEST) && readStop();
            if (told) {
                eaves.begin(numbers[0] + COLDEST);
            }
            return told;
        }

        private boolean readWarm(Eaves eaves) {
            boolean told = readNumber(0, 0, ROUND - 1) && readNumber(1, 0, WARMEST - COLDEST) && readStop();
            if (told) {
                eaves.warmths[numbers[0]] = numbers[1] + COLDEST;
            }
            return told;
        }

        private boolean readRoof(Eaves eaves) {
            boolean told = readNumber(0, 0, KINDS - 1) && readNumber(1, 0, HEAT_MOST)
                    && readNumber(2, 0, SNOW_MOST) && readStop();
            if (told) {
                eaves.addRoof(numbers[0], numbers[1], numbers[2]);
            }
            return told;
        }

        private boolean readIcicle(Eaves eaves) {
            boolean told = readNumber(0, 0, eaves.roofs - 1) && readNumber(1, 0, KINDS - 1)
                    && readNumber(2, 0, PLACES - 1) && readNumber(3, 1, LONG_MOST)
                    && readNumber(4, 1, ROOT_MOST) && readStop();
            if (told) {
                eaves.addIcicle(numbers[0], numbers[1], numbers[2], numbers[3], numbers[4]);
            }
            return told;
        }

        private boolean readHours(Eaves eaves) {
            boolean told = readNumber(0, 1, HOURS_TOLD_MOST) && readStop();
            if (told) {
                eaves.passHours(numbers[0]);
            }
            return told;
        }

        private boolean readNumber(int column, int low, int high) {
            nextToken();
            numbers[column] = value;
            return token == NUMBER && within(value, low, high);
        }

        private boolean readStop() {
            nextToken();
            return token == STOP;
        }

        private void nextToken() {
            start = end;
            while (start < size && bytes[start] == ' ') {
                start++;
            }
            end = start;
            if (start >= size) {
                token = END;
            } else if (isLetter(start)) {
                token = WORD;
                while (end < size && isLetter(end)) {
                    end++;
                }
            } else if (isFigure(start)) {
                nextNumber();
            } else {
                token = bytes[start] == ';' ? STOP : OTHER;
                end = start + 1;
            }
        }

        private void nextNumber() {
            value = 0;
            while (end < size && isFigure(end)) {
                value = Math.min(10 * value + (bytes[end] - '0'), 1000);
                end++;
            }
            token = end - start > 2 ? OTHER : NUMBER;
        }

        private boolean isLetter(int at) {
            return bytes[at] >= 'a' && bytes[at] <= 'z';
        }

        private boolean isFigure(int at) {
            return bytes[at] >= '0' && bytes[at] <= '9';
        }

        private boolean isWord(String word) {
            if (end - start != word.length()) {
                return false;
            }
            for (int k = 0; k < word.length(); k++) {
                if (bytes[start + k] != word.charAt(k)) {
                    return false;
                }
            }
            return true;
        }
    }
}
