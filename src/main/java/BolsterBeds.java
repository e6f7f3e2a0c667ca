import java.util.Arrays;

/**
 * A town of beds with sealed bolsters, told in numbers. What each call answers stands in the
 * document; README.md says how to use the class.
 */
public final class BolsterBeds {
    public static final int BAD = -1, FULL = -2, FINDING = -3, STATE = -4, SPENT = -6, NONE = -9;

    private static final int NOTHING = 1, BEYOND = 2, UNLIKE = 3, NOUGHT = 4, SIZE = 5, LAST_FINDING = 5;
    private static final int BED = 0, STRAW = 1, QUILT = 2, CLOCK = 3, THIN = 4, WALL = 5, KINDS = 6;
    private static final int A_NIGHT = 0, AN_INSPECTION = 1, A_THINNING = 2, A_SWAP = 3;

    private static final int ROWS = 6, ROW_ROOM = 40, TEXTS = 4, TEXT_ROOM = 60, PLACES_TO_KEEP = 3;
    private static final int MAX_BEDS = 6, MAX_DEEDS = 40, MAX_LIE = 99, MAX_THICK = 9, COLDS = 4, WEARING = 3;
    private static final int LAST_NIGHT = 99, MOST_CROSSED = 30, NIGHTS_TO_COME = 40;
    private static final int ROUND_NIGHTS = 4, BROUGHT_NIGHTS = 10, DUEL_TURNS = 4, TEST_NIGHTS = 8;
    private static final int TWELVE = 12, MAX_LOTS = 20, LAST_SEED = 2147483646;
    private static final int COUNTS = 11, BED_TELLS = 8;
    private static final int BLANK = 32, FIGURE_ZERO = 48, HEAD_LETTER = 110;
    private static final int[] KIND_LETTERS = {98, 115, 113, 99, 116, 119};
    private static final int MISSING = -1, WELL = 0, A_BYTE_MORE = 1000;
    private static final long LOT_FACTOR = 48271L, LOT_MODULUS = 2147483647L;
    private static final int MAX_STEPS = 1000, MORE_THAN_ANY = 1000000;

    private final Shelf rows = new Shelf(ROWS, ROW_ROOM);
    private final Shelf texts = new Shelf(TEXTS, TEXT_ROOM);
    // All kept towns come from the same start, so their deeds alone tell them.
    private final Shelf kept = new Shelf(PLACES_TO_KEEP, MAX_DEEDS);
    private final Town start = new Town();
    private final Town now = new Town();
    private final Town aside = new Town();
    private final int[] deeds = new int[MAX_DEEDS];
    private int deedCount = 0;
    private final Reader reader = new Reader();
    private final Rounds rounds = new Rounds();
    private final Marriages marriages = new Marriages();
    private final Clues clues = new Clues();
    private final Duel turns = new Duel();
    private int told = 0;
    private long high = 0;
    private long low = 1;
    private int latestFinding = 0;
    private final int[] findingCounts = new int[LAST_FINDING + 1];

    public BolsterBeds() {
    }

    // ---- 1 rows, texts, towns

    public int row(int r, int n) {
        return makeAnew(rows, r, n, 0);
    }

    public int lay(int r, int i, int v) {
        int refusal = refusalOfPlace(rows, r, i);
        if (refusal != WELL) {
            return refusal;
        }
        int before = rows.get(r, i);
        rows.set(r, i, v);
        return tell(before);
    }

    public int at(int r, int i) {
        int refusal = refusalOfPlace(rows, r, i);
        return refusal != WELL ? refusal : tell(rows.get(r, i));
    }

    public int tear(int r) {
        int refusal = refusalOfMissing(rows, r);
        if (refusal != WELL) {
            return refusal;
        }
        rows.remove(r);
        return 1;
    }

    public int copy(int r, int i, int to, int j, int n) {
        if (!rows.isNumber(r) || !rows.isNumber(to)) {
            return BAD;
        }
        if (n < 0) {
            return refuse(SIZE);
        }
        if (!rows.stands(r) || !rows.stands(to)) {
            return refuse(NOTHING);
        }
        if (!rows.holds(r, i, n) || !rows.holds(to, j, n)) {
            return refuse(BEYOND);
        }
        rows.move(r, i, to, j, n);
        return 1;
    }

    public int mean(int r) {
        int refusal = refusalOfMissing(rows, r);
        if (refusal != WELL) {
            return refusal;
        }
        int size = rows.size(r);
        if (size <= 0) {
            return refuse(NOUGHT);
        }
        long sum = 0;
        for (int i = 0; i < size; i++) {
            sum += rows.get(r, i);
        }
        return tell((int) (sum / size));
    }

    public int text(int t, int n) {
        return makeAnew(texts, t, n, BLANK);
    }

    public int put(int t, int i, int v) {
        int refusal = refusalOfPlace(texts, t, i);
        if (refusal != WELL) {
            return refusal;
        }
        int before = texts.get(t, i);
        texts.set(t, i, (byte) v);
        return before + A_BYTE_MORE;
    }

    public int fault(int t) {
        int refusal = refusalOfMissing(texts, t);
        return refusal != WELL ? refusal : reader.readTown(texts, t);
    }

    public int town(int t) {
        int refusal = refusalOfMissing(texts, t);
        if (refusal != WELL) {
            return refusal;
        }
        if (reader.readTown(texts, t) != NONE) {
            return STATE;
        }
        start.copyFrom(reader.draft);
        now.copyFrom(start);
        deedCount = 0;
        kept.removeAll();
        return now.beds;
    }

    public int bed(int i, int what) {
        if (!now.has(i) || what < 0 || what >= BED_TELLS) {
            return BAD;
        }
        return tell(now.about(i, what));
    }

    public int mark(int i, int kind) {
        if (!now.has(i) || kind <= BED || kind >= KINDS) {
            return BAD;
        }
        if (!isOfKind(now.kindOf(i), kind)) {
            return refuse(UNLIKE);
        }
        int thick = now.thickOf(i);
        int crossing = now.crossesIn(i, now.night);
        switch (kind) {
            case STRAW:
                return now.crossesAs(i, BED, thick, now.night) - crossing;
            case QUILT:
                return thick - barOf(QUILT, thick);
            case CLOCK:
                return now.night % 2;
            case THIN:
                return crossing - now.crossesAs(i, QUILT, thick, now.night);
            default:
                return now.crossesAs(i, STRAW, thick, now.night) - crossing;
        }
    }

    public int cross(int i, int m) {
        if (!now.has(i) || m < 0 || m > LAST_NIGHT) {
            return BAD;
        }
        return now.crossesIn(i, m);
    }

    // ---- 2 deeds

    public int night() {
        if (now.beds == 0) {
            return STATE;
        }
        return deedCount >= MAX_DEEDS ? FULL : enact(A_NIGHT, 0, 0);
    }

    public int inspect(int i) {
        if (!now.has(i)) {
            return BAD;
        }
        return deedCount >= MAX_DEEDS ? FULL : enact(AN_INSPECTION, i, 0);
    }

    public int thin(int i) {
        if (!now.has(i)) {
            return BAD;
        }
        if (now.thickOf(i) == 0) {
            return STATE;
        }
        return deedCount >= MAX_DEEDS ? FULL : enact(A_THINNING, i, 0);
    }

    public int swap(int i, int j) {
        if (!now.has(i) || !now.has(j) || i == j) {
            return BAD;
        }
        return deedCount >= MAX_DEEDS ? FULL : enact(A_SWAP, i, j);
    }

    public int undo(int n) {
        if (n < 0 || n > deedCount) {
            return BAD;
        }
        int undone = deedCount - n;
        deedCount = n;
        redoFromStart();
        return undone;
    }

    public int keep(int k) {
        if (!kept.isNumber(k)) {
            return BAD;
        }
        if (now.beds == 0) {
            return STATE;
        }
        kept.makeOf(k, deedCount, deeds);
        return deedCount;
    }

    public int on(int k) {
        int refusal = refusalOfMissing(kept, k);
        if (refusal != WELL) {
            return refusal;
        }
        deedCount = kept.size(k);
        for (int d = 0; d < deedCount; d++) {
            write(deeds, d, kept.get(k, d));
        }
        redoFromStart();
        return deedCount;
    }

    // ---- 3 nights to come

    public int then(int i, int n) {
        if (!now.has(i) || n < 0 || n > NIGHTS_TO_COME) {
            return BAD;
        }
        aside.copyFrom(now);
        aside.passAlone(i, n);
        told = aside.thickOf(i);
        return aside.liesIn(i);
    }

    public int when(int i) {
        if (!now.has(i)) {
            return BAD;
        }
        aside.copyFrom(now);
        for (int n = 0; n <= NIGHTS_TO_COME; n++) {
            if (aside.wouldBeFound(i)) {
                return n;
            }
            aside.passAlone(i, 1);
        }
        return NONE;
    }

    public int least(int i, int n) {
        if (!now.has(i) || n < 0 || n > NIGHTS_TO_COME) {
            return BAD;
        }
        int thick = now.thickOf(i);
        for (int often = 0; often <= thick; often++) {
            aside.copyFrom(now);
            aside.thinBed(i, often);
            aside.passAlone(i, n);
            if (aside.wouldBeFound(i)) {
                return often;
            }
        }
        return NONE;
    }

    // ---- 4 rounds

    public int round(int n, int r) {
        if (n < 0 || n > ROUND_NIGHTS || !rows.isNumber(r)) {
            return BAD;
        }
        if (now.beds == 0) {
            return STATE;
        }
        int most = rounds.mostFound(now, n);
        rows.makeOf(r, n, rounds.first);
        return most;
    }

    public int brings(int r) {
        if (!rows.isNumber(r)) {
            return BAD;
        }
        if (now.beds == 0) {
            return STATE;
        }
        if (!rows.stands(r)) {
            return refuse(NOTHING);
        }
        if (rows.size(r) > BROUGHT_NIGHTS) {
            return refuse(SIZE);
        }
        if (!isRound(r)) {
            return refuse(UNLIKE);
        }
        aside.copyFrom(now);
        int found = 0;
        for (int m = 0; m < rows.size(r); m++) {
            aside.passNight();
            found += aside.inspectBed(rows.get(r, m));
        }
        told = aside.fines() - now.fines();
        return found;
    }

    // ---- 5 marriages

    public int marry(int r) {
        if (!rows.isNumber(r)) {
            return BAD;
        }
        if (now.beds == 0) {
            return STATE;
        }
        int fewest = marriages.fewestCrossing(now);
        rows.makeOf(r, now.beds, marriages.first);
        return fewest;
    }

    public int rather() {
        if (now.beds == 0) {
            return STATE;
        }
        int pairs = 0;
        int firstPair = NONE;
        for (int i = 0; i < now.beds; i++) {
            for (int j = i + 1; j < now.beds; j++) {
                if (now.gapWith(i, j) < now.gapWith(i, i) && now.gapWith(j, i) < now.gapWith(j, j)) {
                    firstPair = pairs == 0 ? 10 * i + j : firstPair;
                    pairs++;
                }
            }
        }
        told = firstPair;
        return pairs;
    }

    // ---- 6 what crossed

    public int thicks(int i, int r) {
        int refusal = takePairs(i, r);
        return refusal != WELL ? refusal : clues.thicksFitting(now, i, now.kindOf(i));
    }

    public int kinds(int i, int r) {
        int refusal = takePairs(i, r);
        return refusal != WELL ? refusal : clues.kindsFitting(now, i, now.thickOf(i));
    }

    public int test(int i, int r) {
        int refusal = takePairs(i, r);
        if (refusal != WELL) {
            return refusal;
        }
        int best = clues.tellingNight(now, i);
        if (best != NONE) {
            told = clues.greatest;
        }
        return best;
    }

    // ---- 7 by turns

    public int duel(int n) {
        if (n < 0 || n > DUEL_TURNS) {
            return BAD;
        }
        return now.beds == 0 ? STATE : turns.foundFrom(now, 0, n);
    }

    // ---- 8 chances, lots

    public int odds(int v, int p) {
        if (v < 0 || v > MAX_BEDS || p < 0 || p > TWELVE) {
            return BAD;
        }
        if (now.beds == 0) {
            return STATE;
        }
        int open = now.wouldBeFoundBits();
        long ways = 0;
        for (int reported = 0; reported < 1 << MAX_BEDS; reported++) {
            if ((reported & ~open) == 0 && Integer.bitCount(reported) >= v) {
                ways += waysOfReport(reported, open, p);
            }
        }
        return tellChance(ways, power(TWELVE, Integer.bitCount(open)));
    }

    public int mid(int p) {
        if (p < 0 || p > TWELVE) {
            return BAD;
        }
        if (now.beds == 0) {
            return STATE;
        }
        int open = now.wouldBeFoundBits();
        long sum = 0;
        for (int reported = 0; reported < 1 << MAX_BEDS; reported++) {
            if ((reported & ~open) == 0) {
                sum += now.mostLying(reported) * waysOfReport(reported, open, p);
            }
        }
        return tellChance(sum, power(TWELVE, Integer.bitCount(open)));
    }

    public int lots(int n, int seed) {
        if (n < 1 || n > MAX_LOTS || seed < 1 || seed > LAST_SEED) {
            return BAD;
        }
        int beds = now.beds;
        if (beds <= 0) {
            return STATE;
        }
        if (deedCount + n > MAX_DEEDS) {
            return FULL;
        }
        int found = 0;
        long lot = seed;
        for (int d = 0; d < n; d++) {
            lot = lot * LOT_FACTOR % LOT_MODULUS;
            int i = (int) (lot / 8 % beds);
            switch ((int) (lot % 4)) {
                case 2:
                    found += enact(AN_INSPECTION, i, 0);
                    break;
                case 3:
                    enact(A_THINNING, i, 0);
                    break;
                default:
                    enact(A_NIGHT, 0, 0);
                    break;
            }
        }
        return found;
    }

    // ---- 9 what is told

    public int asked() {
        return told;
    }

    public long upper() {
        return high;
    }

    public long lower() {
        return low;
    }

    public int count(int what) {
        switch (what) {
            case 0:
                return now.beds;
            case 1:
                return now.night;
            case 2:
                return deedCount;
            case 3:
                return now.fines();
            case 4:
                return now.liesInAll();
            case 5:
                return now.wouldBeFoundBits();
            case 6:
                return now.coldOf(now.night);
            case 7:
                return now.quilts();
            case 8:
                return rows.standing();
            case 9:
                return texts.standing();
            case 10:
                return kept.standing();
            default:
                return BAD;
        }
    }

    public int finding() {
        return latestFinding;
    }

    public int findings(int f) {
        return f < NOTHING || f > LAST_FINDING ? BAD : read(findingCounts, f);
    }

    public long digest() {
        long h = 17;
        for (int what = 0; what < COUNTS; what++) {
            h = 31 * h + count(what);
        }
        for (int i = 0; i < now.beds; i++) {
            for (int what = 0; what < BED_TELLS; what++) {
                h = 31 * h + now.about(i, what);
            }
        }
        for (int k = 0; k < PLACES_TO_KEEP; k++) {
            h = 31 * h + kept.size(k);
        }
        return texts.digestOn(rows.digestOn(h));
    }

    // ---- what the calls share

    private int tell(int v) {
        told = v;
        return 1;
    }

    private int refuse(int f) {
        latestFinding = f;
        write(findingCounts, f, read(findingCounts, f) + 1);
        return FINDING;
    }

    private int makeAnew(Shelf shelf, int r, int n, int filling) {
        if (!shelf.isNumber(r) || n > shelf.room) {
            return BAD;
        }
        if (n < 0) {
            return refuse(SIZE);
        }
        shelf.make(r, n, filling);
        return n;
    }

    private int refusalOfMissing(Shelf shelf, int r) {
        if (!shelf.isNumber(r)) {
            return BAD;
        }
        return shelf.stands(r) ? WELL : refuse(NOTHING);
    }

    private int refusalOfPlace(Shelf shelf, int r, int i) {
        int refusal = refusalOfMissing(shelf, r);
        if (refusal != WELL) {
            return refusal;
        }
        return shelf.holds(r, i, 1) ? WELL : refuse(BEYOND);
    }

    /** WELL, the clues holding the pairs of a row then; or why they are refused. */
    private int takePairs(int i, int r) {
        if (!now.has(i)) {
            return BAD;
        }
        int refusal = refusalOfMissing(rows, r);
        if (refusal != WELL) {
            return refusal;
        }
        if (rows.size(r) % 2 != 0) {
            return refuse(SIZE);
        }
        return clues.take(rows, r) ? WELL : refuse(UNLIKE);
    }

    private boolean isRound(int r) {
        for (int m = 0; m < rows.size(r); m++) {
            int i = rows.get(r, m);
            if (i != NONE && !now.has(i)) {
                return false;
            }
        }
        return true;
    }

    /** The caller has looked whether there is room for one deed more. */
    private int enact(int what, int i, int j) {
        int deed = 100 * what + 10 * i + j;
        write(deeds, deedCount, deed);
        deedCount++;
        return now.carryOut(deed);
    }

    private void redoFromStart() {
        now.copyFrom(start);
        for (int d = 0; d < deedCount; d++) {
            now.carryOut(read(deeds, d));
        }
    }

    private int tellChance(long upper, long lower) {
        long divisor = commonDivisor(upper, lower);
        if (divisor > 0) {
            high = upper / divisor;
            low = lower / divisor;
        }
        return 1;
    }

    /** In how many of 12 to the power of the open beds' number these of them are reported, no other. */
    private static long waysOfReport(int reported, int open, int p) {
        int silent = open & ~reported;
        return power(p, Integer.bitCount(reported)) * power(TWELVE - p, Integer.bitCount(silent));
    }

    private static long power(int base, int exponent) {
        long product = 1;
        for (int k = 0; k < exponent; k++) {
            product *= base;
        }
        return product;
    }

    private static long commonDivisor(long a, long b) {
        for (int step = 0; step < MAX_STEPS && b != 0; step++) {
            long rest = a % b;
            a = b;
            b = rest;
        }
        return a;
    }

    // Places of arrays are read, written and moved here, so that no index goes unlooked at.

    private static int read(int[] places, int i) {
        return i >= 0 && i < places.length ? places[i] : 0;
    }

    private static void write(int[] places, int i, int v) {
        if (i >= 0 && i < places.length) {
            places[i] = v;
        }
    }

    private static void shift(int[] places, int from, int to, int n) {
        int last = places.length - n;
        if (n >= 0 && from >= 0 && from <= last && to >= 0 && to <= last) {
            System.arraycopy(places, from, places, to, n);
        }
    }

    private static void copyAll(int[] from, int[] to) {
        System.arraycopy(from, 0, to, 0, Math.min(from.length, to.length));
    }

    // ---- the kinds

    private static boolean isOfKind(int kind, int wanted) {
        return kind == wanted || wanted == BED
            || kind == THIN && wanted == QUILT
            || kind == WALL && wanted == STRAW;
    }

    private static int barOf(int kind, int thick) {
        switch (kind) {
            case STRAW:
            case WALL:
                return thick + 2;
            case QUILT:
            case THIN:
                return thick / 2;
            default:
                return thick;
        }
    }

    /** How many cross in night m, of this cold, in a bed of a kind. */
    private static int crossing(int kind, int gap, int thick, int m, int cold) {
        int over = Math.max(0, gap + cold - barOf(kind, thick));
        switch (kind) {
            case CLOCK:
                return m % 2 == 0 ? over : 0;
            case THIN:
                return over > 0 ? over + 1 : 0;
            case WALL:
                return over / 2;
            default:
                return over;
        }
    }

    /** Rows of numbers, each of which is there with a size, or missing. */
    private static final class Shelf {
        private final int room;
        private final int[] sizes;
        private final int[] places;

        Shelf(int many, int room) {
            this.room = Math.max(0, room);
            this.sizes = new int[Math.max(0, many)];
            this.places = new int[Math.max(0, many * room)];
            Arrays.fill(this.sizes, MISSING);
        }

        boolean isNumber(int r) {
            return r >= 0 && r < sizes.length;
        }

        boolean stands(int r) {
            return size(r) >= 0;
        }

        int size(int r) {
            return r >= 0 && r < sizes.length ? sizes[r] : MISSING;
        }

        int standing() {
            int many = 0;
            for (int size : sizes) {
                many += size >= 0 ? 1 : 0;
            }
            return many;
        }

        /** Whether n places from i on are in a row; i may be its end if n is 0. */
        boolean holds(int r, int i, int n) {
            return i >= 0 && n >= 0 && i <= size(r) - n;
        }

        int get(int r, int i) {
            return i >= 0 && i < size(r) ? read(places, r * room + i) : 0;
        }

        void set(int r, int i, int v) {
            if (i >= 0 && i < size(r)) {
                write(places, r * room + i, v);
            }
        }

        void make(int r, int n, int filling) {
            write(sizes, r, Math.min(n, room));
            for (int i = 0; i < n && i < room; i++) {
                set(r, i, filling);
            }
        }

        void makeOf(int r, int n, int[] values) {
            write(sizes, r, Math.min(n, room));
            for (int i = 0; i < n && i < room; i++) {
                set(r, i, read(values, i));
            }
        }

        void remove(int r) {
            write(sizes, r, MISSING);
        }

        void removeAll() {
            Arrays.fill(sizes, MISSING);
        }

        void move(int r, int i, int to, int j, int n) {
            shift(places, r * room + i, to * room + j, n);
        }

        long digestOn(long h) {
            for (int r = 0; r < sizes.length; r++) {
                h = 31 * h + size(r);
                for (int i = 0; i < size(r); i++) {
                    h = 31 * h + get(r, i);
                }
            }
            return h;
        }
    }

    /** The beds as they are in some night, and what happens to them. */
    private static final class Town {
        private final int[] colds = new int[COLDS];
        private final int[] kinds = new int[MAX_BEDS];
        private final int[] lefts = new int[MAX_BEDS];
        private final int[] rights = new int[MAX_BEDS];
        private final int[] thicks = new int[MAX_BEDS];
        private final int[] lying = new int[MAX_BEDS];
        private final int[] timesFound = new int[MAX_BEDS];
        private int thread = 1;
        private int beds = 0;
        private int night = 0;

        void copyFrom(Town other) {
            copyAll(other.colds, colds);
            copyAll(other.kinds, kinds);
            copyAll(other.lefts, lefts);
            copyAll(other.rights, rights);
            copyAll(other.thicks, thicks);
            copyAll(other.lying, lying);
            copyAll(other.timesFound, timesFound);
            thread = other.thread;
            beds = other.beds;
            night = other.night;
        }

        boolean has(int i) {
            return i >= 0 && i < beds;
        }

        int kindOf(int i) {
            return read(kinds, i);
        }

        int thickOf(int i) {
            return read(thicks, i);
        }

        int liesIn(int i) {
            return read(lying, i);
        }

        int coldOf(int m) {
            return read(colds, m % COLDS);
        }

        /** The gap of a bed, had it the right half of another one. */
        int gapWith(int i, int whose) {
            return Math.abs(read(lefts, i) - read(rights, whose));
        }

        int crossesWith(int i, int whose) {
            return crossing(kindOf(i), gapWith(i, whose), thickOf(i), night, coldOf(night));
        }

        int crossesAs(int i, int kind, int thick, int m) {
            return crossing(kind, gapWith(i, i), thick, m, coldOf(m));
        }

        int crossesIn(int i, int m) {
            return crossing(kindOf(i), gapWith(i, i), thickOf(i), m, coldOf(m));
        }

        int about(int i, int what) {
            switch (what) {
                case 0:
                    return kindOf(i);
                case 1:
                    return read(lefts, i);
                case 2:
                    return read(rights, i);
                case 3:
                    return thickOf(i);
                case 4:
                    return liesIn(i);
                case 5:
                    return crossesIn(i, night);
                case 6:
                    return barOf(kindOf(i), thickOf(i));
                default:
                    return read(timesFound, i);
            }
        }

        boolean wouldBeFound(int i) {
            return has(i) && read(lying, i) >= thread;
        }

        int wouldBeFoundBits() {
            int bits = 0;
            for (int i = 0; i < beds; i++) {
                bits |= wouldBeFound(i) ? 1 << i : 0;
            }
            return bits;
        }

        int fines() {
            int sum = 0;
            for (int i = 0; i < beds; i++) {
                sum += read(timesFound, i);
            }
            return sum;
        }

        int liesInAll() {
            int sum = 0;
            for (int i = 0; i < beds; i++) {
                sum += liesIn(i);
            }
            return sum;
        }

        int quilts() {
            int many = 0;
            for (int i = 0; i < beds; i++) {
                many += isOfKind(kindOf(i), QUILT) ? 1 : 0;
            }
            return many;
        }

        int mostLying(int bits) {
            int most = 0;
            for (int i = 0; i < beds; i++) {
                most = (bits >> i & 1) == 1 ? Math.max(most, liesIn(i)) : most;
            }
            return most;
        }

        /** A deed as enact() writes it down: what it answers. */
        int carryOut(int deed) {
            int i = deed / 10 % 10;
            switch (deed / 100) {
                case AN_INSPECTION:
                    return inspectBed(i);
                case A_THINNING:
                    thinBed(i, 1);
                    return thickOf(i);
                case A_SWAP:
                    swapRights(i, deed % 10);
                    return gapWith(i, i);
                default:
                    return passNight();
            }
        }

        int passNight() {
            int sum = 0;
            for (int i = 0; i < beds; i++) {
                sum += sleepIn(i);
            }
            night++;
            return sum;
        }

        /** Nights for one bed only: the town is spoilt for the others. */
        void passAlone(int i, int n) {
            for (int k = 0; k < n; k++) {
                sleepIn(i);
                night++;
            }
        }

        private int sleepIn(int i) {
            int crossed = crossing(kindOf(i), gapWith(i, i), thickOf(i), night, coldOf(night));
            write(lying, i, Math.min(MAX_LIE, liesIn(i) + crossed));
            if (crossed >= WEARING) {
                thinBed(i, 1);
            }
            return crossed;
        }

        /** How many feathers were found: 0 if i is no bed, or it is not found out. */
        int inspectBed(int i) {
            if (!wouldBeFound(i)) {
                return 0;
            }
            int found = liesIn(i);
            write(lying, i, 0);
            write(thicks, i, MAX_THICK);
            write(timesFound, i, read(timesFound, i) + 1);
            return found;
        }

        /** Nothing is thinned if i is no bed. */
        void thinBed(int i, int often) {
            write(thicks, i, Math.max(0, read(thicks, i) - often));
        }

        private void swapRights(int i, int j) {
            int first = read(rights, i);
            write(rights, i, read(rights, j));
            write(rights, j, first);
        }

        void clearBeds() {
            beds = 0;
        }

        void addBed(int kind, int left, int right, int thick) {
            write(kinds, beds, kind);
            write(lefts, beds, left);
            write(rights, beds, right);
            write(thicks, beds, thick);
            beds++;
        }
    }

    /** Reads texts as towns. */
    private static final class Reader {
        private final Town draft = new Town();
        private final int[] signs = new int[TEXT_ROOM];
        private int size = 0;
        private int place = 0;

        /** The fault of a text; NONE if there is none: the draft is its town then. */
        int readTown(Shelf texts, int t) {
            size = texts.size(t);
            for (int i = 0; i < size; i++) {
                write(signs, i, texts.get(t, i));
            }
            place = 0;
            draft.clearBeds();
            skipBlanks();
            if (!takesHead()) {
                return place;
            }
            for (int tries = 0; tries <= MAX_BEDS; tries++) {
                skipBlanks();
                if (place >= size) {
                    return draft.beds > 0 ? NONE : place;
                }
                if (!takesBed()) {
                    return place;
                }
            }
            return place;
        }

        private boolean takesHead() {
            if (here() != HEAD_LETTER) {
                return false;
            }
            place++;
            for (int m = 0; m < COLDS; m++) {
                int cold = takeFigure(0);
                if (cold == MISSING) {
                    return false;
                }
                write(draft.colds, m, cold);
            }
            int thread = takeFigure(1);
            draft.thread = thread;
            return thread != MISSING;
        }

        private boolean takesBed() {
            int kind = kindHere();
            if (kind == MISSING || draft.beds >= MAX_BEDS) {
                return false;
            }
            place++;
            int left = takeFigure(0);
            int right = left == MISSING ? MISSING : takeFigure(0);
            int thick = right == MISSING ? MISSING : takeFigure(0);
            if (thick == MISSING) {
                return false;
            }
            draft.addBed(kind, left, right, thick);
            return true;
        }

        private void skipBlanks() {
            while (place < size && here() == BLANK) {
                place++;
            }
        }

        private int kindHere() {
            for (int kind = 0; kind < KINDS; kind++) {
                if (here() == read(KIND_LETTERS, kind)) {
                    return kind;
                }
            }
            return MISSING;
        }

        /** The figure here, behind which the reader goes on; MISSING (it stays) if there is none such. */
        private int takeFigure(int least) {
            int figure = here() - FIGURE_ZERO;
            if (figure < least || figure > 9) {
                return MISSING;
            }
            place++;
            return figure;
        }

        /** The byte here; 0, which is no letter, figure or blank, behind the end. */
        private int here() {
            return place < size ? read(signs, place) : 0;
        }
    }

    /** Copies of a town, one for each level of a search, made once for all searches. */
    private static final class Levels {
        private final Town[] towns;

        Levels(int many) {
            towns = new Town[Math.max(0, many)];
            for (int level = 0; level < towns.length; level++) {
                towns[level] = new Town();
            }
        }

        /** Null if there is no such level. */
        Town copyAt(int level, Town town) {
            Town copy = level >= 0 && level < towns.length ? towns[level] : null;
            if (copy != null) {
                copy.copyFrom(town);
            }
            return copy;
        }
    }

    /** The rounds of inspections by which most is found. */
    private static final class Rounds {
        private final Levels levels = new Levels(ROUND_NIGHTS + 1);
        private final int[] first = new int[ROUND_NIGHTS];
        private final int[] trail = new int[ROUND_NIGHTS];
        private int most = 0;

        int mostFound(Town town, int n) {
            most = -1;
            goOn(levels.copyAt(0, town), 0, n, 0);
            return most;
        }

        private void goOn(Town town, int depth, int n, int found) {
            if (depth >= n || town == null) {
                takeIfMore(found);
                return;
            }
            town.passNight();
            inspectEach(town, depth, n, found);
        }

        private void inspectEach(Town town, int depth, int n, int found) {
            for (int i = -1; i < town.beds; i++) {
                // A bed that is not found out is as good as none, which comes ahead.
                if (i < 0 || town.wouldBeFound(i)) {
                    Town next = levels.copyAt(depth + 1, town);
                    write(trail, depth, i < 0 ? NONE : i);
                    goOn(next, depth + 1, n, found + (next == null ? 0 : next.inspectBed(i)));
                }
            }
        }

        private void takeIfMore(int found) {
            if (found > most) {
                most = found;
                copyAll(trail, first);
            }
        }
    }

    /** The ways to give right halves anew by which fewest cross. */
    private static final class Marriages {
        private final int[] first = new int[MAX_BEDS];
        private final int[] way = new int[MAX_BEDS];
        private int fewest = 0;

        int fewestCrossing(Town town) {
            fewest = MORE_THAN_ANY;
            give(town, 0, 0, 0);
            return fewest;
        }

        private void give(Town town, int i, int given, int crossed) {
            if (crossed >= fewest) {
                return;
            }
            if (i >= town.beds) {
                fewest = crossed;
                copyAll(way, first);
                return;
            }
            giveEach(town, i, given, crossed);
        }

        private void giveEach(Town town, int i, int given, int crossed) {
            for (int whose = 0; whose < town.beds; whose++) {
                if ((given >> whose & 1) == 0) {
                    write(way, i, whose);
                    give(town, i + 1, given | 1 << whose, crossed + town.crossesWith(i, whose));
                }
            }
        }
    }

    /** What pairs, a night and how many crossed in it, tell of a bed. */
    private static final class Clues {
        private final int[] nights = new int[ROW_ROOM / 2];
        private final int[] crossings = new int[ROW_ROOM / 2];
        private final int[] fitting = new int[KINDS];
        private final int[] parts = new int[MOST_CROSSED + 1];
        private int pairs = 0;
        private int greatest = 0;

        /** Whether the pairs of a row are nights and crossings; they are held from then on. */
        boolean take(Shelf rows, int r) {
            pairs = rows.size(r) / 2;
            for (int k = 0; k < pairs; k++) {
                int m = rows.get(r, 2 * k);
                int crossed = rows.get(r, 2 * k + 1);
                write(nights, k, m);
                write(crossings, k, crossed);
                if (m < 0 || m > LAST_NIGHT || crossed < 0 || crossed > MOST_CROSSED) {
                    return false;
                }
            }
            return true;
        }

        int thicksFitting(Town town, int i, int kind) {
            int bits = 0;
            for (int thick = 0; thick <= MAX_THICK; thick++) {
                bits |= fits(town, i, kind, thick) ? 1 << thick : 0;
            }
            return bits;
        }

        int kindsFitting(Town town, int i, int thick) {
            int bits = 0;
            for (int kind = 0; kind < KINDS; kind++) {
                bits |= fits(town, i, kind, thick) ? 1 << kind : 0;
            }
            return bits;
        }

        /** The night that tells most, its greatest part being held then; or NONE. */
        int tellingNight(Town town, int i) {
            int any = 0;
            for (int kind = 0; kind < KINDS; kind++) {
                int bits = thicksFitting(town, i, kind);
                write(fitting, kind, bits);
                any |= bits;
            }
            if (any == 0) {
                return NONE;
            }
            int best = 0;
            greatest = MORE_THAN_ANY;
            for (int m = 0; m < TEST_NIGHTS; m++) {
                int part = greatestPart(town, i, m);
                if (part < greatest) {
                    greatest = part;
                    best = m;
                }
            }
            return best;
        }

        private int greatestPart(Town town, int i, int m) {
            Arrays.fill(parts, 0);
            int most = 0;
            for (int kind = 0; kind < KINDS; kind++) {
                for (int thick = 0; thick <= MAX_THICK; thick++) {
                    if ((read(fitting, kind) >> thick & 1) == 1) {
                        int crossed = town.crossesAs(i, kind, thick, m);
                        write(parts, crossed, read(parts, crossed) + 1);
                        most = Math.max(most, read(parts, crossed));
                    }
                }
            }
            return most;
        }

        private boolean fits(Town town, int i, int kind, int thick) {
            for (int k = 0; k < pairs; k++) {
                if (town.crossesAs(i, kind, thick, read(nights, k)) != read(crossings, k)) {
                    return false;
                }
            }
            return true;
        }
    }

    /** Turns of an upholsterer, who wants little found, and of an inspector, who wants much. */
    private static final class Duel {
        private final Levels levels = new Levels(DUEL_TURNS);

        private int foundFrom(Town town, int turn, int n) {
            if (turn >= n) {
                return 0;
            }
            return turn % 2 == 0 ? fewestFrom(town, turn, n) : mostFrom(town, turn, n);
        }

        private int fewestFrom(Town town, int turn, int n) {
            int fewest = MORE_THAN_ANY;
            for (int i = -1; i < town.beds; i++) {
                if (i < 0 || town.thickOf(i) > 0) {
                    Town next = levels.copyAt(turn, town);
                    if (next != null) {
                        next.thinBed(i, 1);
                        next.passNight();
                        fewest = Math.min(fewest, foundFrom(next, turn + 1, n));
                    }
                }
            }
            return fewest;
        }

        private int mostFrom(Town town, int turn, int n) {
            int most = 0;
            for (int i = -1; i < town.beds; i++) {
                // A bed that is not found out is as good as none.
                if (i < 0 || town.wouldBeFound(i)) {
                    Town next = levels.copyAt(turn, town);
                    if (next != null) {
                        int found = next.inspectBed(i);
                        most = Math.max(most, found + foundFrom(next, turn + 1, n));
                    }
                }
            }
            return most;
        }
    }
}
