/**
 * A river that is divided by days of the week between villages. What each call answers is told by the
 * numbered promises of the document; no call ever throws.
 */
public final class RiverDays {
    public static final int BAD = -1, FULL = -2, FINDING = -3, STATE = -4, SPENT = -6, NONE = -9;

    private static final int NOTHING = 1, BEYOND = 2, UNLIKE = 3, NOUGHT = 4, SIZE = 5;
    private static final int FINDING_KINDS = 5;

    private static final int GOOD = 0;
    private static final int MISSING = -1;

    private static final int ROWS = 6, ROW_LIMIT = 40;
    private static final int TEXTS = 4, TEXT_LIMIT = 60, BLANK = 32;
    private static final int KEPT = 3;
    private static final int REACHES = 6, SHUTTABLE = 3, SETS = 8;
    private static final int WEEK = 7, VILLAGES = 7;
    private static final int DEEDS = 40;
    private static final int PLAN_DAYS = 12, SEARCH_DAYS = 4, DUEL_DAYS = 3, PAIR_DAYS = 10;
    private static final int WORTH_DAYS = 20, LOT_DAYS = 20, GRIND_DAYS = 40;
    private static final int SEA_LIMIT = 999, WATER_LIMIT = 99, OFTEN_LIMIT = 99, TWELVE = 12;
    private static final int COUNTS = 11;
    private static final long LOT_FACTOR = 48271L, LOT_MODULUS = 2147483647L;

    private final Rows rows = new Rows(ROWS, ROW_LIMIT);
    private final Rows texts = new Rows(TEXTS, TEXT_LIMIT);
    private final Reader reader = new Reader();
    private final Flow flow = new Flow();
    private final Deeds deeds = new Deeds();
    private final Deeds[] kept = {new Deeds(), new Deeds(), new Deeds()};
    private final boolean[] isKept = new boolean[KEPT];
    private final Aside aside = new Aside();
    private final Hunt hunt = new Hunt();
    private final Breaking breaking = new Breaking();
    private final int[] answered = new int[FINDING_KINDS + 1];

    private Course course = new Course();
    private Course draft = new Course();
    private int latestFinding = 0;
    private int toldInt = 0;
    private long toldUpper = 0L;
    private long toldLower = 1L;

    public RiverDays() {
    }

    // ---- 1 rows, texts, rivers

    public int row(int r, int n) {
        return makeAnew(rows, r, n, 0);
    }

    public int lay(int r, int i, int v) {
        int refusal = refusePlace(rows, r, i);
        if (refusal != GOOD) {
            return refusal;
        }
        int was = rows.valueAt(r, i);
        rows.change(r, i, v);
        return tell(was);
    }

    public int at(int r, int i) {
        int refusal = refusePlace(rows, r, i);
        return refusal != GOOD ? refusal : tell(rows.valueAt(r, i));
    }

    public int tear(int r) {
        int refusal = refuseMissing(rows, r);
        if (refusal != GOOD) {
            return refusal;
        }
        rows.drop(r);
        return 1;
    }

    public int copy(int r, int i, int to, int j, int n) {
        if (!rows.isOne(r) || !rows.isOne(to)) {
            return BAD;
        }
        if (n < 0) {
            return find(SIZE);
        }
        if (!rows.isThere(r) || !rows.isThere(to)) {
            return find(NOTHING);
        }
        if (!rows.holdsRun(r, i, n) || !rows.holdsRun(to, j, n)) {
            return find(BEYOND);
        }
        rows.transfer(r, i, to, j, n);
        return 1;
    }

    public int mean(int r) {
        int refusal = refuseMissing(rows, r);
        if (refusal != GOOD) {
            return refusal;
        }
        int n = rows.sizeOf(r);
        if (n < 1) {
            return find(NOUGHT);
        }
        return tell((int) (rows.sumOf(r) / n));
    }

    public int text(int t, int n) {
        return makeAnew(texts, t, n, BLANK);
    }

    public int put(int t, int i, int v) {
        int refusal = refusePlace(texts, t, i);
        if (refusal != GOOD) {
            return refusal;
        }
        int was = texts.valueAt(t, i);
        texts.change(t, i, (byte) v);
        return was + 1000;
    }

    public int fault(int t) {
        int refusal = refuseMissing(texts, t);
        return refusal != GOOD ? refusal : readDraft(t);
    }

    public int river(int t) {
        int refusal = refuseMissing(texts, t);
        if (refusal != GOOD) {
            return refusal;
        }
        if (readDraft(t) != NONE) {
            return STATE;
        }
        Course old = course;
        course = draft;
        draft = old;
        deeds.cutTo(0);
        for (int k = 0; k < KEPT; k++) {
            isKept[k] = false;
        }
        replay();
        return course.size;
    }

    public int reach(int i, int what) {
        if (!course.hasReach(i) || what < 0 || what > 4) {
            return BAD;
        }
        return tell(ofReach(i, what));
    }

    public int mark(int i, int kind) {
        if (!course.hasReach(i) || kind < Kind.WEIR || kind > Kind.FAIR) {
            return BAD;
        }
        if (!Kind.isOf(course.kind[i], kind)) {
            return find(UNLIKE);
        }
        return Kind.signOf(kind, course.measure[i], flow.water[i]);
    }

    public int weekday(int d, int what) {
        if (!isWeekday(d) || what < 0 || what > 1) {
            return BAD;
        }
        if (course.size == 0) {
            return STATE;
        }
        return what == 0 ? course.rain[d] : course.owner[d];
    }

    public int swap(int d, int e) {
        if (!isWeekday(d) || !isWeekday(e) || d == e) {
            return BAD;
        }
        if (course.size == 0) {
            return STATE;
        }
        int was = course.owner[d];
        course.owner[d] = course.owner[e];
        course.owner[e] = was;
        return 1;
    }

    public int owns(int village) {
        return isVillage(village) ? flow.seaOf[village] : BAD;
    }

    // ---- 2 deeds

    public int day(int shut) {
        if (!course.canShut(shut)) {
            return BAD;
        }
        if (course.size == 0) {
            return STATE;
        }
        if (deeds.size >= DEEDS) {
            return FULL;
        }
        return passTruly(shut);
    }

    public int undo(int n) {
        if (n < 0 || n > deeds.size) {
            return BAD;
        }
        int undone = deeds.size - n;
        deeds.cutTo(n);
        replay();
        return undone;
    }

    public int keep(int k) {
        if (k < 0 || k >= KEPT) {
            return BAD;
        }
        if (course.size == 0) {
            return STATE;
        }
        kept[k].become(deeds);
        isKept[k] = true;
        return deeds.size;
    }

    public int on(int k) {
        if (k < 0 || k >= KEPT) {
            return BAD;
        }
        if (!isKept[k]) {
            return find(NOTHING);
        }
        deeds.become(kept[k]);
        replay();
        return deeds.size;
    }

    // ---- 3 what runs (aside)

    public int gates() {
        return course.gateBits;
    }

    public int runs(int shut) {
        if (!course.canShut(shut)) {
            return BAD;
        }
        if (course.size == 0) {
            return STATE;
        }
        aside.begin(flow.water, deeds.size);
        aside.passOn(course, 0, shut);
        tell(aside.grinding);
        return aside.sea;
    }

    public int sea(int r) {
        int refusal = refusePlan(true, r, PLAN_DAYS);
        if (refusal != GOOD) {
            return refusal;
        }
        followPlan(r);
        tell(aside.groundInAll);
        return aside.seaInAll;
    }

    public int water(int i, int r) {
        int refusal = refusePlan(course.hasReach(i), r, PLAN_DAYS);
        if (refusal != GOOD) {
            return refusal;
        }
        followPlan(r);
        return aside.waterNow(i);
    }

    public int share(int village, int r) {
        int refusal = refusePlan(isVillage(village), r, PLAN_DAYS);
        if (refusal != GOOD) {
            return refusal;
        }
        followPlan(r);
        return aside.seaOf[village];
    }

    public int grinds(int i) {
        if (!course.hasReach(i)) {
            return BAD;
        }
        aside.begin(flow.water, deeds.size);
        for (int d = 0; d < GRIND_DAYS; d++) {
            aside.passOn(course, d, 0);
            if ((aside.grinding >> i & 1) != 0) {
                return d + 1;
            }
        }
        return NONE;
    }

    // ---- 4 holding, letting

    public int best(int n, int r) {
        int refusal = refuseSearch(rows.isOne(r), n, SEARCH_DAYS);
        if (refusal != GOOD) {
            return refusal;
        }
        hunt.seek(course, flow.water, deeds.size, Hunt.MOST_GROUND, n);
        rows.take(r, hunt.plan, n);
        return hunt.top;
    }

    public int all(int n, int r) {
        int refusal = refuseSearch(rows.isOne(r), n, SEARCH_DAYS);
        if (refusal != GOOD) {
            return refusal;
        }
        hunt.seek(course, flow.water, deeds.size, Hunt.FEWEST_SHUT, n);
        if (hunt.found == 0) {
            return NONE;
        }
        rows.take(r, hunt.plan, n);
        return -hunt.top;
    }

    public int most(int village, int n) {
        int refusal = refuseSearch(isVillage(village), n, SEARCH_DAYS);
        if (refusal != GOOD) {
            return refusal;
        }
        hunt.village = village;
        hunt.seek(course, flow.water, deeds.size, Hunt.MOST_OWNED, n);
        return hunt.top;
    }

    public int worth(int n) {
        int refusal = refuseSearch(true, n, WORTH_DAYS);
        if (refusal != GOOD) {
            return refusal;
        }
        int least = groundWithout(0, n);
        int dearest = 0;
        for (int d = 1; d < WEEK; d++) {
            int often = groundWithout(d, n);
            if (often < least) {
                least = often;
                dearest = d;
            }
        }
        tell(least);
        return dearest;
    }

    public int duel(int n) {
        int refusal = refuseSearch(true, n, DUEL_DAYS);
        if (refusal != GOOD) {
            return refusal;
        }
        return hunt.contest(course, flow.water, deeds.size, n);
    }

    // ---- 5 who opened

    public int ways(int r) {
        int refusal = refuseSeas(true, r);
        if (refusal != GOOD) {
            return refusal;
        }
        rows.giveTo(r, hunt.due);
        hunt.seek(course, flow.water, deeds.size, Hunt.AS_CAME, rows.sizeOf(r));
        tellFraction(hunt.found, 1L);
        return tell(hunt.common);
    }

    public int first(int r, int to) {
        int refusal = refuseSeas(rows.isOne(to), r);
        if (refusal != GOOD) {
            return refusal;
        }
        rows.giveTo(r, hunt.due);
        hunt.seek(course, flow.water, deeds.size, Hunt.AS_CAME, rows.sizeOf(r));
        if (hunt.found == 0) {
            return NONE;
        }
        rows.take(to, hunt.plan, hunt.days);
        return hunt.shutTogether();
    }

    public int kinds(int i, int r) {
        int refusal = refusePairs(i, r);
        if (refusal != GOOD) {
            return refusal;
        }
        int set = 0;
        for (int kind = Kind.REACH; kind <= Kind.FAIR; kind++) {
            if (agrees(kind, course.measure[i], flow.water[i], r)) {
                set |= 1 << kind;
            }
        }
        return set;
    }

    public int measures(int i, int r) {
        int refusal = refusePairs(i, r);
        if (refusal != GOOD) {
            return refusal;
        }
        int set = 0;
        for (int measure = 1; measure <= 9; measure++) {
            if (agrees(course.kind[i], measure, flow.water[i], r)) {
                set |= 1 << measure;
            }
        }
        return set;
    }

    // ---- 6 chances, lots

    public int mid(int r, int p) {
        int refusal = refusePlan(isOfTwelve(p), r, SEARCH_DAYS);
        if (refusal != GOOD) {
            return refusal;
        }
        rows.giveTo(r, breaking.plan);
        breaking.weigh(course, flow.water, deeds.size, rows.sizeOf(r), 0, p);
        tellFraction(breaking.seaWeighed, breaking.whole);
        return 1;
    }

    public int odds(int r, int g, int p) {
        int refusal = refusePlan(isOfTwelve(p) && g >= 0 && g <= OFTEN_LIMIT, r, SEARCH_DAYS);
        if (refusal != GOOD) {
            return refusal;
        }
        rows.giveTo(r, breaking.plan);
        breaking.weigh(course, flow.water, deeds.size, rows.sizeOf(r), g, p);
        tellFraction(breaking.reached, breaking.whole);
        return 1;
    }

    public int lots(int n, int seed) {
        if (n < 1 || n > LOT_DAYS || seed < 1 || seed >= LOT_MODULUS) {
            return BAD;
        }
        if (course.size == 0) {
            return STATE;
        }
        if (deeds.size + n > DEEDS) {
            return FULL;
        }
        long lot = seed;
        int came = 0;
        for (int d = 0; d < n; d++) {
            lot = lot * LOT_FACTOR % LOT_MODULUS;
            came += passTruly(course.setByLot((int) lot));
        }
        return came;
    }

    // ---- 7 what is told

    public int asked() {
        return toldInt;
    }

    public long upper() {
        return toldUpper;
    }

    public long lower() {
        return toldLower;
    }

    public int count(int what) {
        return what < 0 || what >= COUNTS ? BAD : counted(what);
    }

    public int finding() {
        return latestFinding;
    }

    public int findings(int f) {
        return f < 1 || f > FINDING_KINDS ? BAD : answered[f];
    }

    public long digest() {
        long h = 17L;
        for (int what = 0; what < COUNTS; what++) {
            h = 31L * h + counted(what);
        }
        for (int d = 0; d < WEEK && course.size > 0; d++) {
            h = 31L * h + course.rain[d];
            h = 31L * h + course.owner[d];
        }
        for (int v = 0; v < VILLAGES; v++) {
            h = 31L * h + flow.seaOf[v];
        }
        for (int i = 0; i < course.size; i++) {
            for (int what = 0; what <= 4; what++) {
                h = 31L * h + ofReach(i, what);
            }
        }
        for (int k = 0; k < KEPT; k++) {
            h = 31L * h + (isKept[k] ? kept[k].size : MISSING);
        }
        return texts.mixInto(rows.mixInto(h));
    }

    // ---- telling and refusing

    private int tell(int v) {
        toldInt = v;
        return 1;
    }

    private void tellFraction(long up, long low) {
        long divisor = commonDivisor(up, low);
        if (divisor > 0L) {
            toldUpper = up / divisor;
            toldLower = low / divisor;
        }
    }

    private static long commonDivisor(long a, long b) {
        // Euclid needs fewer than 100 steps for any two longs.
        for (int steps = 0; steps < 100 && b != 0L; steps++) {
            long rest = a % b;
            a = b;
            b = rest;
        }
        return a;
    }

    private int find(int f) {
        latestFinding = f;
        answered[f]++;
        return FINDING;
    }

    private int makeAnew(Rows shelf, int r, int n, int fill) {
        if (!shelf.isOne(r) || n > shelf.limit) {
            return BAD;
        }
        if (n < 0) {
            return find(SIZE);
        }
        shelf.make(r, n, fill);
        return n;
    }

    private int refuseMissing(Rows shelf, int r) {
        if (!shelf.isOne(r)) {
            return BAD;
        }
        return shelf.isThere(r) ? GOOD : find(NOTHING);
    }

    private int refusePlace(Rows shelf, int r, int i) {
        int refusal = refuseMissing(shelf, r);
        if (refusal != GOOD) {
            return refusal;
        }
        return shelf.holds(r, i) ? GOOD : find(BEYOND);
    }

    private int refuseSearch(boolean othersGood, int n, int mostDays) {
        if (!othersGood || n < 0 || n > mostDays) {
            return BAD;
        }
        return course.size == 0 ? STATE : GOOD;
    }

    private int refuseWithoutRiver(boolean othersGood, int r) {
        if (!othersGood || !rows.isOne(r)) {
            return BAD;
        }
        return course.size == 0 ? STATE : refuseMissing(rows, r);
    }

    private int refusePlan(boolean othersGood, int r, int mostDays) {
        int refusal = refuseWithoutRiver(othersGood, r);
        if (refusal != GOOD) {
            return refusal;
        }
        if (rows.sizeOf(r) > mostDays) {
            return find(SIZE);
        }
        for (int d = 0; d < rows.sizeOf(r); d++) {
            if (!course.canShut(rows.valueAt(r, d))) {
                return find(UNLIKE);
            }
        }
        return GOOD;
    }

    private int refuseSeas(boolean othersGood, int r) {
        int refusal = refuseWithoutRiver(othersGood, r);
        if (refusal != GOOD) {
            return refusal;
        }
        if (rows.sizeOf(r) < 1 || rows.sizeOf(r) > SEARCH_DAYS) {
            return find(SIZE);
        }
        return rows.allWithin(r, SEA_LIMIT) ? GOOD : find(UNLIKE);
    }

    private int refusePairs(int i, int r) {
        if (!course.hasReach(i)) {
            return BAD;
        }
        int refusal = refuseMissing(rows, r);
        if (refusal != GOOD) {
            return refusal;
        }
        if (rows.sizeOf(r) % 2 != 0 || rows.sizeOf(r) > 2 * PAIR_DAYS) {
            return find(SIZE);
        }
        return rows.allWithin(r, WATER_LIMIT) ? GOOD : find(UNLIKE);
    }

    private static boolean isWeekday(int d) {
        return d >= 0 && d < WEEK;
    }

    private static boolean isVillage(int v) {
        return v >= 0 && v < VILLAGES;
    }

    private static boolean isOfTwelve(int p) {
        return p >= 0 && p <= TWELVE;
    }

    // ---- the river's own doings

    private int passTruly(int shut) {
        int d = deeds.size % WEEK;
        int village = course.owner[d];
        deeds.add(shut, village);
        return flow.pass(course, shut, course.rain[d], village);
    }

    /** A RIVER is all told by its springs and its DEEDS, so what is kept or undone is only passed again. */
    private void replay() {
        flow.start(course);
        for (int d = 0; d < deeds.size; d++) {
            flow.pass(course, deeds.shut[d], course.rain[d % WEEK], deeds.village[d]);
        }
    }

    private int readDraft(int t) {
        return reader.read(texts, t, draft);
    }

    private void followPlan(int r) {
        aside.begin(flow.water, deeds.size);
        for (int d = 0; d < rows.sizeOf(r); d++) {
            aside.passOn(course, d, rows.valueAt(r, d));
        }
    }

    private int groundWithout(int dryWeekday, int days) {
        aside.begin(flow.water, deeds.size);
        aside.dryWeekday = dryWeekday;
        for (int d = 0; d < days; d++) {
            aside.passOn(course, d, 0);
        }
        return aside.groundInAll;
    }

    private boolean agrees(int kind, int measure, int waterNow, int r) {
        int w = waterNow;
        for (int k = 0; k + 1 < rows.sizeOf(r); k += 2) {
            int ran = Kind.runFrom(kind, measure, w, false);
            if (ran != rows.valueAt(r, k + 1)) {
                return false;
            }
            w = Kind.settle(kind, w - ran + rows.valueAt(r, k));
        }
        return true;
    }

    private int ofReach(int i, int what) {
        switch (what) {
            case 0: return course.kind[i];
            case 1: return course.measure[i];
            case 2: return flow.water[i];
            case 3: return flow.ground[i];
            default: return flow.ranInAll[i];
        }
    }

    private int counted(int what) {
        switch (what) {
            case 0: return course.size;
            case 1: return deeds.size;
            case 2: return deeds.size;
            case 3: return sum(flow.water);
            case 4: return sum(flow.seaOf);
            case 5: return sum(flow.ground);
            case 6: return Integer.bitCount(course.gateBits);
            case 7: return Integer.bitCount(course.millBits);
            case 8: return rows.howMany();
            case 9: return texts.howMany();
            default: return keptRivers();
        }
    }

    private int keptRivers() {
        int n = 0;
        for (int k = 0; k < KEPT; k++) {
            n += isKept[k] ? 1 : 0;
        }
        return n;
    }

    private static int sum(int[] values) {
        int all = 0;
        for (int v : values) {
            all += v;
        }
        return all;
    }

    // ---- classes inside

    /** A shelf of numbered rows, made once at their full length; a TEXT's bytes are held as ints, too. */
    private static final class Rows {
        final int limit;
        private final int[][] places;
        private final int[] sizes;

        Rows(int number, int limit) {
            this.limit = Math.max(0, limit);
            this.places = new int[Math.max(0, number)][this.limit];
            this.sizes = new int[Math.max(0, number)];
            for (int r = 0; r < this.sizes.length; r++) {
                this.sizes[r] = MISSING;
            }
        }

        boolean isOne(int r) {
            return r >= 0 && r < sizes.length;
        }

        boolean isThere(int r) {
            return isOne(r) && sizes[r] != MISSING;
        }

        int sizeOf(int r) {
            return isOne(r) ? Math.max(0, sizes[r]) : 0;
        }

        boolean holds(int r, int i) {
            return isOne(r) && i >= 0 && i < sizes[r];
        }

        boolean holdsRun(int r, int i, int n) {
            return isOne(r) && i >= 0 && n >= 0 && (long) i + n <= sizes[r];
        }

        int valueAt(int r, int i) {
            return holds(r, i) ? places[r][i] : 0;
        }

        void change(int r, int i, int v) {
            if (holds(r, i)) {
                places[r][i] = v;
            }
        }

        void make(int r, int n, int fill) {
            if (isOne(r) && n >= 0 && n <= limit) {
                sizes[r] = n;
                for (int i = 0; i < n; i++) {
                    places[r][i] = fill;
                }
            }
        }

        void take(int r, int[] values, int n) {
            make(r, n, 0);
            for (int i = 0; i < n && i < values.length; i++) {
                change(r, i, values[i]);
            }
        }

        void giveTo(int r, int[] values) {
            for (int i = 0; i < sizeOf(r) && i < values.length; i++) {
                values[i] = places[r][i];
            }
        }

        void drop(int r) {
            if (isOne(r)) {
                sizes[r] = MISSING;
            }
        }

        void transfer(int r, int i, int to, int j, int n) {
            if (holdsRun(r, i, n) && holdsRun(to, j, n)) {
                System.arraycopy(places[r], i, places[to], j, n);
            }
        }

        long sumOf(int r) {
            long all = 0L;
            for (int i = 0; i < sizeOf(r); i++) {
                all += places[r][i];
            }
            return all;
        }

        boolean allWithin(int r, int highest) {
            for (int i = 0; i < sizeOf(r); i++) {
                if (places[r][i] < 0 || places[r][i] > highest) {
                    return false;
                }
            }
            return true;
        }

        int howMany() {
            int n = 0;
            for (int r = 0; r < sizes.length; r++) {
                n += isThere(r) ? 1 : 0;
            }
            return n;
        }

        long mixInto(long h) {
            for (int r = 0; r < sizes.length; r++) {
                h = 31L * h + sizes[r];
                for (int i = 0; i < sizeOf(r); i++) {
                    h = 31L * h + places[r][i];
                }
            }
            return h;
        }
    }

    /** What a REACH of a KIND does; asked by number, for a REACH may be tried as another KIND. */
    private static final class Kind {
        static final int REACH = 0, WEIR = 1, MILL = 2, POND = 3, SLUICE = 4, FAIR = 5;
        private static final int FLOATS = 2;

        static int byLetter(int letter) {
            switch (letter) {
                case 'a': return REACH;
                case 'w': return WEIR;
                case 'm': return MILL;
                case 'p': return POND;
                case 's': return SLUICE;
                case 'f': return FAIR;
                default: return MISSING;
            }
        }

        static boolean isOf(int kind, int other) {
            switch (other) {
                case REACH: return true;
                case WEIR: return kind == WEIR || kind == POND || kind == SLUICE;
                case MILL: return kind == MILL || kind == FAIR;
                default: return kind == other;
            }
        }

        static int runFrom(int kind, int measure, int water, boolean shut) {
            if (shut) {
                return water > measure ? water - measure : 0;
            }
            return kind == SLUICE && water > measure ? measure : water;
        }

        static int settle(int kind, int water) {
            int left = kind == POND && water > 0 ? water - 1 : water;
            return left > WATER_LIMIT ? WATER_LIMIT : left;
        }

        static boolean grindsBy(int kind, int measure, int ran) {
            switch (kind) {
                case MILL: return ran >= measure;
                case FAIR: return ran >= measure && ran <= measure + FLOATS;
                default: return false;
            }
        }

        static int signOf(int kind, int measure, int water) {
            switch (kind) {
                case WEIR: return Math.min(water, measure);
                case MILL: return Math.max(0, measure - water);
                case POND: return water;
                case SLUICE: return measure < 1 ? 0 : (water + measure - 1) / measure;
                default: return Math.max(0, water - measure - FLOATS);
            }
        }
    }

    /** What a TEXT says of a RIVER; days that pass change none of it. */
    private static final class Course {
        int size = 0;
        int gateBits = 0;
        int millBits = 0;
        int setCount = 0;
        final int[] kind = new int[REACHES];
        final int[] measure = new int[REACHES];
        final int[] spring = new int[REACHES];
        final int[] rain = new int[WEEK];
        final int[] owner = new int[WEEK];
        final int[] sets = new int[SETS];

        void clear() {
            size = 0;
            gateBits = 0;
            millBits = 0;
        }

        boolean hasReach(int i) {
            return i >= 0 && i < size;
        }

        boolean canShut(int set) {
            return (set & ~gateBits) == 0;
        }

        boolean hasRoomFor(int newKind) {
            boolean tooManyGates = Kind.isOf(newKind, Kind.WEIR) && Integer.bitCount(gateBits) >= SHUTTABLE;
            return size < REACHES && !tooManyGates;
        }

        void add(int newKind, int newMeasure, int newWater) {
            if (!hasRoomFor(newKind)) {
                return;
            }
            kind[size] = newKind;
            measure[size] = newMeasure;
            spring[size] = newWater;
            gateBits |= Kind.isOf(newKind, Kind.WEIR) ? 1 << size : 0;
            millBits |= Kind.isOf(newKind, Kind.MILL) ? 1 << size : 0;
            size++;
        }

        void listSets() {
            setCount = 0;
            for (int set = 0; set < 1 << REACHES && setCount < SETS; set++) {
                if (canShut(set)) {
                    sets[setCount] = set;
                    setCount++;
                }
            }
        }

        int setByLot(int lot) {
            int set = 0;
            int bit = 3;
            for (int i = 0; i < size; i++) {
                if ((gateBits >> i & 1) != 0) {
                    set |= (lot >> bit & 1) << i;
                    bit++;
                }
            }
            return set;
        }

        void letRun(int[] water, int[] ran, int shut) {
            for (int i = 0; i < size && i < water.length && i < ran.length; i++) {
                ran[i] = Kind.runFrom(kind[i], measure[i], water[i], (shut >> i & 1) != 0);
            }
        }

        void takeIn(int[] water, int[] ran, int rainNow) {
            int comes = rainNow;
            for (int i = 0; i < size && i < water.length && i < ran.length; i++) {
                water[i] = Kind.settle(kind[i], water[i] - ran[i] + comes);
                comes = ran[i];
            }
        }

        int toSea(int[] ran) {
            return size > 0 && size <= ran.length ? ran[size - 1] : 0;
        }

        int grindingBy(int[] ran) {
            int set = 0;
            for (int i = 0; i < size && i < ran.length; i++) {
                if (Kind.grindsBy(kind[i], measure[i], ran[i])) {
                    set |= 1 << i;
                }
            }
            return set;
        }
    }

    /** Reads a TEXT as a RIVER, up to its FAULT. */
    private static final class Reader {
        private static final int END = -1000;

        private final int[] signs = new int[TEXT_LIMIT];
        private int size = 0;
        private int place = 0;

        /** The FAULT, or NONE: then the course is whole. */
        int read(Rows texts, int t, Course into) {
            texts.giveTo(t, signs);
            size = Math.min(texts.sizeOf(t), TEXT_LIMIT);
            place = 0;
            into.clear();
            boolean goesOn = takesWeek('y', into.rain, 9) && takesWeek('o', into.owner, VILLAGES - 1);
            // One REACH is due at least; more than a TEXT has places can't come.
            for (int k = 0; goesOn && k < TEXT_LIMIT && (k == 0 || !onlyBlanksLeft()); k++) {
                skipBlanks();
                goesOn = takesReach(into);
            }
            into.listSets();
            return goesOn ? NONE : place;
        }

        private boolean takesWeek(int letter, int[] figures, int highest) {
            skipBlanks();
            if (seen() != letter) {
                return false;
            }
            place++;
            for (int d = 0; d < figures.length; d++) {
                if (!seesFigure(0, highest)) {
                    return false;
                }
                figures[d] = seen() - '0';
                place++;
            }
            return true;
        }

        private boolean takesReach(Course into) {
            int kind = Kind.byLetter(seen());
            if (kind == MISSING || !into.hasRoomFor(kind)) {
                return false;
            }
            place++;
            if (!seesFigure(1, 9)) {
                return false;
            }
            int measure = seen() - '0';
            place++;
            if (!seesFigure(0, 9)) {
                return false;
            }
            into.add(kind, measure, seen() - '0');
            place++;
            return true;
        }

        private boolean onlyBlanksLeft() {
            skipBlanks();
            return place >= size;
        }

        private int seen() {
            return place >= 0 && place < size ? signs[place] : END;
        }

        private boolean seesFigure(int lowest, int highest) {
            return seen() >= '0' + lowest && seen() <= '0' + highest;
        }

        private void skipBlanks() {
            for (int k = 0; k < TEXT_LIMIT && seen() == BLANK; k++) {
                place++;
            }
        }
    }

    /** DEEDS, each by what was SHUT and by whose DAY it was then (owners may be swapped later). */
    private static final class Deeds {
        int size = 0;
        final int[] shut = new int[DEEDS];
        final int[] village = new int[DEEDS];

        void add(int set, int owner) {
            if (size < DEEDS) {
                shut[size] = set;
                village[size] = owner;
                size++;
            }
        }

        void cutTo(int n) {
            size = Math.max(0, Math.min(n, size));
        }

        void become(Deeds other) {
            if (other != null) {
                size = other.size;
                System.arraycopy(other.shut, 0, shut, 0, DEEDS);
                System.arraycopy(other.village, 0, village, 0, DEEDS);
            }
        }
    }

    /** The RIVER as it is now, with all that DAYS have brought till now. */
    private static final class Flow {
        final int[] water = new int[REACHES];
        final int[] ground = new int[REACHES];
        final int[] ranInAll = new int[REACHES];
        final int[] seaOf = new int[VILLAGES];
        private final int[] ran = new int[REACHES];

        void start(Course course) {
            for (int i = 0; i < REACHES; i++) {
                water[i] = i < course.size ? course.spring[i] : 0;
                ground[i] = 0;
                ranInAll[i] = 0;
            }
            for (int v = 0; v < VILLAGES; v++) {
                seaOf[v] = 0;
            }
        }

        int pass(Course course, int shut, int rainNow, int village) {
            course.letRun(water, ran, shut);
            course.takeIn(water, ran, rainNow);
            int grinding = course.grindingBy(ran);
            for (int i = 0; i < course.size; i++) {
                ground[i] += grinding >> i & 1;
                ranInAll[i] += ran[i];
            }
            int came = course.toSea(ran);
            if (isVillage(village)) {
                seaOf[village] += came;
            }
            return came;
        }
    }

    /** DAYS that are only tried: the WATER at each depth is held, so that a search can come back to it. */
    private static final class Aside {
        int dryWeekday = MISSING;
        int sea = 0;
        int grinding = 0;
        int seaInAll = 0;
        int groundInAll = 0;
        final int[] seaOf = new int[VILLAGES];
        private int today = 0;
        private final int[][] water = new int[SEARCH_DAYS + 1][REACHES];
        private final int[] ran = new int[REACHES];

        void begin(int[] waterNow, int dayNow) {
            today = Math.max(0, dayNow);
            dryWeekday = MISSING;
            seaInAll = 0;
            groundInAll = 0;
            for (int v = 0; v < VILLAGES; v++) {
                seaOf[v] = 0;
            }
            for (int i = 0; i < REACHES && i < waterNow.length; i++) {
                water[0][i] = waterNow[i];
            }
        }

        /** One DAY more of a single walk, told together with those before. */
        void passOn(Course course, int daysAhead, int shut) {
            pass(course, water[0], daysAhead, shut);
            seaInAll += sea;
            groundInAll += Integer.bitCount(grinding);
            int village = ownerOf(course, daysAhead);
            if (isVillage(village)) {
                seaOf[village] += sea;
            }
        }

        /** One DAY more of a search: from the WATER at a depth to that at the next one. */
        void branch(Course course, int depth, int shut) {
            if (depth >= 0 && depth < SEARCH_DAYS) {
                System.arraycopy(water[depth], 0, water[depth + 1], 0, REACHES);
                pass(course, water[depth + 1], depth, shut);
            }
        }

        int ownerOf(Course course, int daysAhead) {
            return course.owner[weekdayOf(daysAhead)];
        }

        int waterNow(int i) {
            return i >= 0 && i < REACHES ? water[0][i] : 0;
        }

        private int weekdayOf(int daysAhead) {
            return Math.floorMod(today + daysAhead, WEEK);
        }

        private void pass(Course course, int[] here, int daysAhead, int shut) {
            int d = weekdayOf(daysAhead);
            course.letRun(here, ran, shut);
            sea = course.toSea(ran);
            grinding = course.grindingBy(ran);
            course.takeIn(here, ran, d == dryWeekday ? 0 : course.rain[d]);
        }
    }

    /** Goes through all PLANS of some DAYS in their order, and holds the first of the best that fit. */
    private static final class Hunt {
        static final int MOST_GROUND = 0, FEWEST_SHUT = 1, MOST_OWNED = 2, AS_CAME = 3;

        final int[] due = new int[SEARCH_DAYS];
        final int[] plan = new int[SEARCH_DAYS];
        int village = 0;
        int days = 0;
        int found = 0;
        int top = 0;
        int common = 0;
        private int goal = 0;
        private final int[] tried = new int[SEARCH_DAYS];
        private final Aside aside = new Aside();

        void seek(Course course, int[] waterNow, int dayNow, int newGoal, int newDays) {
            aside.begin(waterNow, dayNow);
            goal = newGoal;
            days = Math.max(0, Math.min(newDays, SEARCH_DAYS));
            found = 0;
            top = 0;
            common = 0;
            goDeeper(course, 0, 0);
        }

        private void goDeeper(Course course, int depth, int gained) {
            if (depth >= days) {
                arrive(gained);
                return;
            }
            for (int s = 0; s < course.setCount; s++) {
                int shut = course.sets[s];
                aside.branch(course, depth, shut);
                if (fits(course, depth)) {
                    tried[depth] = shut;
                    goDeeper(course, depth + 1, gained + gain(course, depth));
                }
            }
        }

        private boolean fits(Course course, int depth) {
            switch (goal) {
                case FEWEST_SHUT: return aside.grinding == course.millBits;
                case AS_CAME: return aside.sea == due[depth];
                default: return true;
            }
        }

        private int gain(Course course, int depth) {
            switch (goal) {
                case MOST_GROUND: return Integer.bitCount(aside.grinding);
                case FEWEST_SHUT: return -Integer.bitCount(tried[depth]);
                case MOST_OWNED: return aside.ownerOf(course, depth) == village ? aside.sea : 0;
                default: return 0;
            }
        }

        private void arrive(int gained) {
            if (found == 0 || gained > top) {
                top = gained;
                System.arraycopy(tried, 0, plan, 0, SEARCH_DAYS);
            }
            common = found == 0 ? tried[0] : common & tried[0];
            found++;
        }

        int shutTogether() {
            int n = 0;
            for (int d = 0; d < days; d++) {
                n += Integer.bitCount(plan[d]);
            }
            return n;
        }

        /** How often any GRINDS, if one who wants much and one who wants little choose by turns. */
        int contest(Course course, int[] waterNow, int dayNow, int newDays) {
            aside.begin(waterNow, dayNow);
            days = Math.max(0, Math.min(newDays, SEARCH_DAYS));
            return contend(course, 0);
        }

        private int contend(Course course, int depth) {
            if (depth >= days) {
                return 0;
            }
            boolean wantsMuch = depth % 2 == 0;
            int chosen = 0;
            for (int s = 0; s < course.setCount; s++) {
                aside.branch(course, depth, course.sets[s]);
                int often = Integer.bitCount(aside.grinding);
                often += contend(course, depth + 1);
                if (s == 0 || (wantsMuch ? often > chosen : often < chosen)) {
                    chosen = often;
                }
            }
            return chosen;
        }
    }

    /** A PLAN's ends by BREAKING, each weighed in twelfths to the power of all that is SHUT. */
    private static final class Breaking {
        final int[] plan = new int[SEARCH_DAYS];
        long seaWeighed = 0L;
        long reached = 0L;
        long whole = 1L;
        private int days = 0;
        private int often = 0;
        private int p = 0;
        private final Aside aside = new Aside();

        void weigh(Course course, int[] waterNow, int dayNow, int newDays, int newOften, int newP) {
            aside.begin(waterNow, dayNow);
            days = Math.max(0, Math.min(newDays, SEARCH_DAYS));
            often = newOften;
            p = newP;
            seaWeighed = 0L;
            reached = 0L;
            whole = 1L;
            for (int d = 0; d < days; d++) {
                whole *= power(TWELVE, Integer.bitCount(plan[d]));
            }
            spread(course, 0, 1L, 0, 0);
        }

        private void spread(Course course, int depth, long weight, int seaTillNow, int groundTillNow) {
            if (depth >= days) {
                seaWeighed += weight * seaTillNow;
                reached += groundTillNow >= often ? weight : 0L;
                return;
            }
            for (int s = 0; s < course.setCount; s++) {
                int held = course.sets[s];
                long heavier = weight * weightOf(plan[depth], held);
                if (heavier > 0L) {
                    aside.branch(course, depth, held);
                    int ground = groundTillNow + Integer.bitCount(aside.grinding);
                    spread(course, depth + 1, heavier, seaTillNow + aside.sea, ground);
                }
            }
        }

        private long weightOf(int shut, int held) {
            if ((held & ~shut) != 0) {
                return 0L;
            }
            return power(TWELVE - p, Integer.bitCount(held)) * power(p, Integer.bitCount(shut & ~held));
        }

        private static long power(int base, int exponent) {
            long product = 1L;
            for (int k = 0; k < exponent && k < REACHES; k++) {
                product *= base;
            }
            return product;
        }
    }
}
