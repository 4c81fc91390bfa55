/**
 * Great worlds on many machines: a field of whole amounts on cells that are parted and joined,
 * machines that work on them, kept states, and how far the numbers are true.
 *
 * <p>All arrays are made with the object and used again: no call makes a new one.
 */
public final class MeshWorlds {
    public static final int BAD = -1, FULL = -2, FINDING = -3, STATE = -4, NONE = -9;

    private static final int NOTHING = 1, BEYOND = 2, UNLIKE = 3, NOUGHT = 4, SIZE = 5;
    private static final int FINDINGS = 5;

    private static final int ROWS = 6, TEXTS = 4, LONGEST = 40, BLANK = 32;

    /** Names below COARSE have side 4, those below PARTABLE side 4 or 2, all others side 1. */
    private static final int NAMES = 336, PARTABLE = 80, COARSE = 16;
    private static final int ACROSS = 16, SQUARES = 256;
    private static final int GREATEST = 1000000;
    private static final int MISSING = -1, CELL = 0, FINE = 1, SEEN = 2, EDGE = 3, FROZEN = 4;

    private static final int MACHINES = 6;
    private static final int MACHINE = 0, SLOW = 1, FLAKY = 2, WRONG = 3, SPARE = 4;

    private static final int SLOTS = 2;
    private static final int LONGEST_RUN = 20, LONGEST_WAIT = 50;
    private static final int LONGEST_KEEPING = 8, LEAST_ODDS = 2, MOST_ODDS = 20, DEAREST = 20;
    private static final int LONGEST_SHARE = 3, LONGEST_OFF = 20;

    private final Shelf rows;
    private final Shelf texts;
    private final Law law;
    private final Law draft;
    private final World world;
    private final Layout layout;
    private final Flows flows;
    private final Crew crew;
    private final Kept keptFirst;
    private final Kept keptSecond;
    private final Shares shares;
    private final Fraction fraction;
    private final int[] findingCounts;
    private int latestFinding;
    private int latestAsked;

    public MeshWorlds() {
        rows = new Shelf(ROWS);
        texts = new Shelf(TEXTS);
        law = new Law();
        draft = new Law();
        world = new World();
        layout = new Layout();
        flows = new Flows();
        crew = new Crew();
        keptFirst = new Kept();
        keptSecond = new Kept();
        shares = new Shares();
        fraction = new Fraction();
        findingCounts = new int[FINDINGS + 1];
    }

    // ---- 1 rows, texts, cells

    public int row(int r, int n) {
        if (!rows.isNumber(r) || n > LONGEST) {
            return BAD;
        }
        if (n < 0) {
            return refuse(SIZE);
        }
        rows.make(r, n, 0);
        return n;
    }

    public int lay(int r, int i, int v) {
        if (!rows.isNumber(r)) {
            return BAD;
        }
        if (!rows.isThere(r)) {
            return refuse(NOTHING);
        }
        if (!rows.hasPlaces(r, i, 1)) {
            return refuse(BEYOND);
        }
        latestAsked = rows.swap(r, i, v);
        return 1;
    }

    public int tear(int r) {
        if (!rows.isNumber(r)) {
            return BAD;
        }
        if (!rows.isThere(r)) {
            return refuse(NOTHING);
        }
        rows.remove(r);
        return 1;
    }

    public int copy(int r, int i, int to, int j, int n) {
        if (!rows.isNumber(r) || !rows.isNumber(to)) {
            return BAD;
        }
        if (n < 0) {
            return refuse(SIZE);
        }
        if (!rows.isThere(r) || !rows.isThere(to)) {
            return refuse(NOTHING);
        }
        if (!rows.hasPlaces(r, i, n) || !rows.hasPlaces(to, j, n)) {
            return refuse(BEYOND);
        }
        rows.bring(r, i, to, j, n);
        return 1;
    }

    public int average(int r) {
        if (!rows.isNumber(r)) {
            return BAD;
        }
        if (!rows.isThere(r)) {
            return refuse(NOTHING);
        }
        int size = rows.sizeOf(r);
        if (size < 1) {
            return refuse(NOUGHT);
        }
        long all = 0;
        for (int i = 0; i < size; i++) {
            all += rows.get(r, i);
        }
        latestAsked = (int) (all / size);
        return 1;
    }

    public int text(int t, int n) {
        if (!texts.isNumber(t) || n > LONGEST) {
            return BAD;
        }
        if (n < 0) {
            return refuse(SIZE);
        }
        texts.make(t, n, BLANK);
        return n;
    }

    public int put(int t, int i, int v) {
        if (!texts.isNumber(t)) {
            return BAD;
        }
        if (!texts.isThere(t)) {
            return refuse(NOTHING);
        }
        if (!texts.hasPlaces(t, i, 1)) {
            return refuse(BEYOND);
        }
        return texts.swap(t, i, (byte) v) + 1000;
    }

    public int fault(int t) {
        if (!texts.isNumber(t)) {
            return BAD;
        }
        if (!texts.isThere(t)) {
            return refuse(NOTHING);
        }
        return draft.read(texts, t);
    }

    public int field(int t) {
        if (!texts.isNumber(t)) {
            return BAD;
        }
        if (!texts.isThere(t)) {
            return refuse(NOTHING);
        }
        if (draft.read(texts, t) != NONE) {
            return STATE;
        }
        law.take(draft);
        return 1;
    }

    public int amount(int c, int v) {
        if (!isName(c) || !isAmount(v)) {
            return BAD;
        }
        if (!world.isThere(c)) {
            return refuse(NOTHING);
        }
        int was = world.amounts[c];
        world.amounts[c] = v;
        return was;
    }

    public int fill(int r) {
        if (!rows.isNumber(r)) {
            return BAD;
        }
        if (!rows.isThere(r)) {
            return refuse(NOTHING);
        }
        if (rows.sizeOf(r) != COARSE) {
            return refuse(SIZE);
        }
        for (int c = 0; c < COARSE; c++) {
            if (!isAmount(rows.get(r, c))) {
                return refuse(UNLIKE);
            }
        }
        int filled = 0;
        for (int c = 0; c < COARSE; c++) {
            if (world.isThere(c)) {
                world.amounts[c] = rows.get(r, c);
                filled++;
            }
        }
        return filled;
    }

    public int told(int c, int what) {
        if (!isName(c) || what < 0 || what > 5) {
            return BAD;
        }
        if (!world.isThere(c)) {
            return refuse(NOTHING);
        }
        latestAsked = world.property(c, what);
        return 1;
    }

    public int mark(int c, int kind) {
        if (!isName(c) || kind < FINE || kind > FROZEN) {
            return BAD;
        }
        if (!world.isThere(c)) {
            return refuse(NOTHING);
        }
        int is = world.kinds[c];
        if (kind == FINE && (is == FINE || is == SEEN)) {
            return parentOf(c);
        }
        if (is != kind) {
            return refuse(UNLIKE);
        }
        return world.markOf(c);
    }

    public int at(int x, int y) {
        return isOnWorld(x, y) ? world.ownerAt(x, y) : BAD;
    }

    public int part(int c) {
        if (!isName(c)) {
            return BAD;
        }
        if (!world.isThere(c)) {
            return refuse(NOTHING);
        }
        if (!world.canPart(c)) {
            return refuse(UNLIKE);
        }
        world.cutInFour(c);
        return firstChildOf(c);
    }

    public int join(int c) {
        if (c < 0 || c >= PARTABLE) {
            return BAD;
        }
        if (!world.hasFour(c)) {
            return refuse(NOTHING);
        }
        if (!world.hasFourFine(c)) {
            return refuse(UNLIKE);
        }
        int together = world.sumOfFour(c);
        if (together > GREATEST) {
            return refuse(BEYOND);
        }
        world.makeOneOfFour(c);
        return together;
    }

    public int edge(int c, boolean back) {
        return back ? turn(c, EDGE, CELL) : turn(c, CELL, EDGE);
    }

    public int freeze(int c, boolean back) {
        return back ? turn(c, FROZEN, CELL) : turn(c, CELL, FROZEN);
    }

    public int see(int c, boolean back) {
        return back ? turn(c, SEEN, FINE) : turn(c, FINE, SEEN);
    }

    // ---- 2 ticks

    public int tick() {
        layout.refresh(world);
        if (!flows.reckon(world, layout, law)) {
            return STATE;
        }
        flows.settle(world, law);
        world.ticks++;
        int parted = world.partAbove(law.partMark);
        int joined = world.joinBelow(law.joinMark);
        return parted + 100 * joined;
    }

    public int flow(int a, int b) {
        if (!isName(a) || !isName(b)) {
            return BAD;
        }
        return flows.between(world, a, b);
    }

    public long sum() {
        return world.sumOfAmounts();
    }

    public int top() {
        int best = NONE;
        int most = -1;
        for (int c = 0; c < NAMES; c++) {
            if (world.isThere(c) && world.amounts[c] > most) {
                most = world.amounts[c];
                best = c;
            }
        }
        return best;
    }

    public long over(int which) {
        if (which == 0) {
            return flows.leftInAll;
        }
        return which == 1 ? flows.putInAll : 0;
    }

    // ---- 3 machines

    public int machine(int m, int kind) {
        if (!isMachine(m) || kind < MACHINE || kind > SPARE) {
            return BAD;
        }
        if (kind == SPARE && crew.cellsOf(world, m) > 0) {
            return STATE;
        }
        int was = crew.kinds[m];
        crew.kinds[m] = kind;
        return was;
    }

    public int give(int c, int m) {
        if (!isName(c) || !isMachine(m)) {
            return BAD;
        }
        if (!world.isThere(c)) {
            return refuse(NOTHING);
        }
        if (crew.isSpare(m)) {
            return STATE;
        }
        int was = world.given[c];
        world.given[c] = m;
        return was;
    }

    public int bears(int m, int kind) {
        if (!isMachine(m) || kind < SLOW || kind > SPARE) {
            return BAD;
        }
        int is = crew.kinds[m];
        if (kind == FLAKY && (is == FLAKY || is == WRONG)) {
            return crew.cellsOf(world, m);
        }
        if (is != kind) {
            return refuse(UNLIKE);
        }
        if (kind == SLOW) {
            return crew.workOf(world, m);
        }
        return kind == WRONG ? crew.greatestOf(world, m) : crew.sparesBelow(m);
    }

    public int work(int m) {
        return isMachine(m) ? crew.workOf(world, m) : BAD;
    }

    public int cuts() {
        return crew.lookAround(world);
    }

    public int curve(int i) {
        if (i < 0) {
            return BAD;
        }
        layout.refresh(world);
        return i < layout.cells ? layout.cellAt(i) : NONE;
    }

    public int deal(int set) {
        if (set < 1 || set >= 1 << MACHINES) {
            return BAD;
        }
        if (crew.hasSpareIn(set)) {
            return STATE;
        }
        layout.refresh(world);
        return crew.shareOut(world, layout, set);
    }

    public int run(int n, int wait) {
        if (n < 1 || n > LONGEST_RUN || wait < 0 || wait > LONGEST_WAIT) {
            return BAD;
        }
        return crew.workThrough(world, n, wait);
    }

    public int ran(int m, int what) {
        if (!isMachine(m) || what < 0 || what > 1) {
            return BAD;
        }
        return what == 0 ? crew.ends[m] : crew.waitedFor[m];
    }

    // ---- 4 kept states, flips, odds

    public int keep(int slot) {
        if (!isSlot(slot)) {
            return BAD;
        }
        keptIn(slot).take(world);
        return world.cellsThere();
    }

    public int goOn(int slot) {
        if (!isSlot(slot)) {
            return BAD;
        }
        Kept kept = keptIn(slot);
        if (!kept.isKept) {
            return refuse(NOTHING);
        }
        kept.bringBack(world);
        return world.ticks;
    }

    public int flip(int c, int bit) {
        if (!isName(c) || bit < 0 || bit > 18) {
            return BAD;
        }
        if (!world.isThere(c)) {
            return refuse(NOTHING);
        }
        int flipped = world.amounts[c] ^ (1 << bit);
        if (!isAmount(flipped)) {
            return refuse(BEYOND);
        }
        world.amounts[c] = flipped;
        return flipped;
    }

    public int find(int slot) {
        if (!isSlot(slot)) {
            return BAD;
        }
        Kept kept = keptIn(slot);
        if (!kept.isKept) {
            return refuse(NOTHING);
        }
        if (!kept.hasSameCells(world)) {
            return STATE;
        }
        int others = kept.othersIn(world);
        if (others != 1) {
            return others == 0 ? NONE : STATE;
        }
        latestAsked = kept.moreIn(world);
        return kept.flippedIn(world);
    }

    public int stops(int m) {
        if (!isMachine(m)) {
            return BAD;
        }
        int spare = crew.firstSpare();
        if (crew.isSpare(m) || !isMachine(spare)) {
            return STATE;
        }
        crew.kinds[spare] = MACHINE;
        world.handOver(m, spare);
        return spare;
    }

    public int keeping(int k, int d, int c) {
        if (k < 1 || k > LONGEST_KEEPING || !areOdds(d, c)) {
            return BAD;
        }
        fraction.tell(keepingUpper(k, d, c), k * power(d - 1, k));
        return 1;
    }

    public int best(int d, int c) {
        if (!areOdds(d, c)) {
            return BAD;
        }
        int least = 1;
        for (int k = 2; k <= LONGEST_KEEPING; k++) {
            if (takesLess(k, least, d, c)) {
                least = k;
            }
        }
        fraction.tell(keepingUpper(least, d, c), least * power(d - 1, least));
        return least;
    }

    // ---- 5 how far it is true

    public int share(int from, int to, int t) {
        if (!isName(from) || !isName(to) || t < 0 || t > LONGEST_SHARE) {
            return BAD;
        }
        if (!world.isThere(from) || !world.isThere(to)) {
            return refuse(NOTHING);
        }
        layout.refresh(world);
        shares.reckon(world, layout, law, to, t);
        fraction.tell(shares.of[from], shares.whole);
        return 1;
    }

    public int most(int to, int t) {
        if (!isName(to) || t < 0 || t > LONGEST_SHARE) {
            return BAD;
        }
        if (!world.isThere(to)) {
            return refuse(NOTHING);
        }
        layout.refresh(world);
        shares.reckon(world, layout, law, to, t);
        int from = shares.greatest(world, to);
        fraction.tell(shares.of[from], shares.whole);
        return from;
    }

    public int off(int c, int t) {
        if (!isName(c) || t < 0 || t > LONGEST_OFF) {
            return BAD;
        }
        if (!world.isThere(c)) {
            return refuse(NOTHING);
        }
        layout.refresh(world);
        return t * layout.partnersOf(world, c, law.open);
    }

    // ---- 6 what is told

    public int asked() {
        return latestAsked;
    }

    public long upper() {
        return fraction.above;
    }

    public long lower() {
        return fraction.below;
    }

    public int count(int what) {
        switch (what) {
            case 0:
                return world.ticks;
            case 1:
                return world.cellsThere();
            case 2:
                return world.cellsOfKind(FINE) + world.cellsOfKind(SEEN);
            case 3:
                return world.cellsOfKind(FROZEN);
            case 4:
                return world.cellsOfKind(EDGE);
            case 5:
                return crew.sparesBelow(MACHINES);
            case 6:
                return keptStates();
            case 7:
                return rows.howMany();
            case 8:
                return texts.howMany();
            default:
                return BAD;
        }
    }

    public int finding() {
        return latestFinding;
    }

    public int findings(int f) {
        return f < 1 || f > FINDINGS ? BAD : findingCounts[f];
    }

    public long digest() {
        long h = 17;
        for (int what = 0; what <= 8; what++) {
            h = 31 * h + count(what);
        }
        h = world.fold(h);
        for (int m = 0; m < MACHINES; m++) {
            h = 31 * h + crew.kinds[m];
        }
        h = law.fold(h);
        h = 31 * h + flows.leftInAll;
        h = 31 * h + flows.putInAll;
        h = rows.fold(h);
        return texts.fold(h);
    }

    // ---- what the calls have in common

    private int refuse(int f) {
        latestFinding = f;
        findingCounts[f]++;
        return FINDING;
    }

    private int turn(int c, int from, int to) {
        if (!isName(c)) {
            return BAD;
        }
        if (!world.isThere(c)) {
            return refuse(NOTHING);
        }
        if (world.kinds[c] != from) {
            return refuse(UNLIKE);
        }
        world.become(c, to);
        return 1;
    }

    private Kept keptIn(int slot) {
        return slot == 0 ? keptFirst : keptSecond;
    }

    private int keptStates() {
        return (keptFirst.isKept ? 1 : 0) + (keptSecond.isKept ? 1 : 0);
    }

    private static boolean isName(int c) {
        return c >= 0 && c < NAMES;
    }

    private static boolean isAmount(int v) {
        return v >= 0 && v <= GREATEST;
    }

    private static boolean isMachine(int m) {
        return m >= 0 && m < MACHINES;
    }

    private static boolean isSlot(int slot) {
        return slot >= 0 && slot < SLOTS;
    }

    private static boolean isOnWorld(int x, int y) {
        return x >= 0 && x < ACROSS && y >= 0 && y < ACROSS;
    }

    /** The names are laid so that one rule serves both steps, from side 4 and from side 2. */
    private static int firstChildOf(int c) {
        return COARSE + 4 * c;
    }

    private static int parentOf(int c) {
        return (c - COARSE) / 4;
    }

    private static boolean areOdds(int d, int c) {
        return d >= LEAST_ODDS && d <= MOST_ODDS && c >= 0 && c <= DEAREST;
    }

    private static long power(long base, int times) {
        long product = 1;
        for (int i = 0; i < times; i++) {
            product *= base;
        }
        return product;
    }

    /** What keeping takes, as the upper number over k times (d - 1) to the k. */
    private static long keepingUpper(int k, int d, int c) {
        long without = power(d - 1, k);
        return d * (power(d, k) - without) + c * without;
    }

    /** Both sides are brought to one lower number that stays small: a plain cross product would run over. */
    private static boolean takesLess(int k, int than, int d, int c) {
        long here = keepingUpper(k, d, c) * power(d - 1, LONGEST_KEEPING - k) * than;
        long there = keepingUpper(than, d, c) * power(d - 1, LONGEST_KEEPING - than) * k;
        return here < there;
    }

    private static int flowOf(int amount, int n, int m, int sides, int side) {
        long all = 4L * m * side;
        return all < 1 ? 0 : (int) ((long) amount * n * sides / all);
    }

    /** Rows of up to 40 numbers; a size of -1 says that a row is missing. */
    private static final class Shelf {
        private final int[] sizes;
        private final int[] places;

        Shelf(int rows) {
            sizes = new int[rows];
            places = new int[rows * LONGEST];
            for (int r = 0; r < rows; r++) {
                sizes[r] = MISSING;
            }
        }

        boolean isNumber(int r) {
            return r >= 0 && r < sizes.length;
        }

        boolean isThere(int r) {
            return isNumber(r) && sizes[r] >= 0;
        }

        int sizeOf(int r) {
            return isNumber(r) ? sizes[r] : MISSING;
        }

        boolean hasPlaces(int r, int i, int n) {
            return isThere(r) && i >= 0 && n >= 0 && n <= sizes[r] - i;
        }

        void make(int r, int n, int v) {
            if (!isNumber(r) || n < 0 || n > LONGEST) {
                return;
            }
            sizes[r] = n;
            for (int i = 0; i < n; i++) {
                places[r * LONGEST + i] = v;
            }
        }

        void remove(int r) {
            if (isNumber(r)) {
                sizes[r] = MISSING;
            }
        }

        int get(int r, int i) {
            return hasPlaces(r, i, 1) ? places[r * LONGEST + i] : 0;
        }

        int swap(int r, int i, int v) {
            if (!hasPlaces(r, i, 1)) {
                return 0;
            }
            int was = places[r * LONGEST + i];
            places[r * LONGEST + i] = v;
            return was;
        }

        void bring(int r, int i, int to, int j, int n) {
            if (hasPlaces(r, i, n) && hasPlaces(to, j, n)) {
                System.arraycopy(places, r * LONGEST + i, places, to * LONGEST + j, n);
            }
        }

        int howMany() {
            int there = 0;
            for (int r = 0; r < sizes.length; r++) {
                if (sizes[r] >= 0) {
                    there++;
                }
            }
            return there;
        }

        long fold(long start) {
            long h = start;
            for (int r = 0; r < sizes.length; r++) {
                h = 31 * h + sizes[r];
                for (int i = 0; i < sizes[r]; i++) {
                    h = 31 * h + get(r, i);
                }
            }
            return h;
        }
    }

    /** The field: which part each cell gives, whether the rim is open, and the two marks. */
    private static final class Law {
        private int n;
        private int m;
        private int open;
        private int partMark;
        private int joinMark;
        /** The text that is read, copied here so that the calls stay few deep. */
        private final int[] signs;
        private int size;
        private int place;
        private int number;

        Law() {
            signs = new int[LONGEST];
            clear();
        }

        private void clear() {
            n = 0;
            m = 1;
            open = 0;
            partMark = -1;
            joinMark = -1;
        }

        void take(Law other) {
            n = other.n;
            m = other.m;
            open = other.open;
            partMark = other.partMark;
            joinMark = other.joinMark;
        }

        /** The place of the first fault, or NONE. */
        int read(Shelf texts, int t) {
            clear();
            copySigns(texts, t);
            place = 0;
            // each round goes on by a place or ends, so there are no more rounds than places
            for (int round = 0; round < size && place < size; round++) {
                if (!readItem()) {
                    return place;
                }
            }
            return NONE;
        }

        private void copySigns(Shelf texts, int t) {
            size = texts.sizeOf(t);
            for (int i = 0; i < size && i < LONGEST; i++) {
                signs[i] = texts.get(t, i);
            }
        }

        private boolean readItem() {
            switch (sign()) {
                case BLANK:
                    place++;
                    return true;
                case 'F':
                    place++;
                    return readGiven();
                case 'O':
                    place++;
                    return readOpen();
                case 'P':
                    place++;
                    if (!readNumber(6) || number == 0) {
                        return false;
                    }
                    partMark = number;
                    return true;
                case 'J':
                    place++;
                    if (!readNumber(6)) {
                        return false;
                    }
                    joinMark = number;
                    return true;
                default:
                    return false;
            }
        }

        private boolean readGiven() {
            if (!readNumber(2)) {
                return false;
            }
            int upperNumber = number;
            if (sign() != '/') {
                return false;
            }
            place++;
            if (!readNumber(2) || number == 0 || upperNumber > number) {
                return false;
            }
            n = upperNumber;
            m = number;
            return true;
        }

        private boolean readOpen() {
            int read = sign();
            if (read != '0' && read != '1') {
                return false;
            }
            open = read - '0';
            place++;
            return true;
        }

        private boolean readNumber(int digits) {
            int start = place;
            number = 0;
            for (int i = 0; i < digits; i++) {
                int read = sign();
                if (read < '0' || read > '9') {
                    break;
                }
                number = 10 * number + read - '0';
                place++;
            }
            return place > start;
        }

        /** The end is told by 0, which no item has in it. */
        private int sign() {
            return place >= 0 && place < size && place < LONGEST ? signs[place] : 0;
        }

        long fold(long start) {
            long h = 31 * start + n;
            h = 31 * h + m;
            h = 31 * h + open;
            h = 31 * h + partMark;
            return 31 * h + joinMark;
        }
    }

    /** The cells by their names, and which of them each square lies in. */
    private static final class World {
        private final int[] kinds;
        private final int[] amounts;
        private final int[] given;
        /** Of a SEEN cell its amount at the last tick's begin (-1: none was), of an EDGE what came, of a FROZEN one since when. */
        private final int[] marks;
        private final int[] left;
        private final int[] high;
        private final int[] wide;
        private final int[] owners;
        private int ticks;
        private boolean isRecut;

        World() {
            kinds = new int[NAMES];
            amounts = new int[NAMES];
            given = new int[NAMES];
            marks = new int[NAMES];
            left = new int[NAMES];
            high = new int[NAMES];
            wide = new int[NAMES];
            owners = new int[SQUARES];
            for (int c = 0; c < NAMES; c++) {
                layOut(c);
                kinds[c] = c < COARSE ? CELL : MISSING;
            }
            paintAll();
        }

        private void layOut(int c) {
            if (c < COARSE) {
                wide[c] = 4;
                left[c] = c % 4 * 4;
                high[c] = c / 4 * 4;
                return;
            }
            int around = parentOf(c);
            wide[c] = c < PARTABLE ? 2 : 1;
            left[c] = left[around] + c % 2 * wide[c];
            high[c] = high[around] + c / 2 % 2 * wide[c];
        }

        private void paintAll() {
            for (int c = 0; c < NAMES; c++) {
                if (isThere(c)) {
                    paint(c);
                }
            }
        }

        private void paint(int c) {
            isRecut = true;
            for (int y = high[c]; y < high[c] + wide[c]; y++) {
                for (int x = left[c]; x < left[c] + wide[c]; x++) {
                    if (isOnWorld(x, y)) {
                        owners[y * ACROSS + x] = c;
                    }
                }
            }
        }

        boolean isThere(int c) {
            return isName(c) && kinds[c] != MISSING;
        }

        boolean isFlowing(int c) {
            return isThere(c) && kinds[c] != FROZEN;
        }

        int ownerAt(int x, int y) {
            return isOnWorld(x, y) ? owners[y * ACROSS + x] : MISSING;
        }

        int giverAt(int x, int y) {
            int c = ownerAt(x, y);
            return isName(c) ? given[c] : 0;
        }

        int property(int c, int what) {
            switch (what) {
                case 0:
                    return kinds[c];
                case 1:
                    return amounts[c];
                case 2:
                    return wide[c];
                case 3:
                    return left[c];
                case 4:
                    return high[c];
                default:
                    return given[c];
            }
        }

        int markOf(int c) {
            return kinds[c] == SEEN && marks[c] < 0 ? amounts[c] : marks[c];
        }

        void become(int c, int kind) {
            kinds[c] = kind;
            if (kind == SEEN) {
                marks[c] = -1;
            } else {
                marks[c] = kind == FROZEN ? ticks : 0;
            }
        }

        boolean canPart(int c) {
            return c >= 0 && c < PARTABLE && (kinds[c] == CELL || kinds[c] == FINE);
        }

        void cutInFour(int c) {
            if (!canPart(c)) {
                return;
            }
            int first = firstChildOf(c);
            int rest = amounts[c] % 4;
            for (int q = 0; q < 4; q++) {
                kinds[first + q] = FINE;
                amounts[first + q] = amounts[c] / 4 + (q < rest ? 1 : 0);
                given[first + q] = given[c];
                paint(first + q);
            }
            kinds[c] = MISSING;
        }

        boolean hasFour(int c) {
            int first = firstChildOf(c);
            return isThere(first) && isThere(first + 1) && isThere(first + 2) && isThere(first + 3);
        }

        boolean hasFourFine(int c) {
            if (!hasFour(c)) {
                return false;
            }
            int first = firstChildOf(c);
            return kinds[first] == FINE && kinds[first + 1] == FINE
                    && kinds[first + 2] == FINE && kinds[first + 3] == FINE;
        }

        int sumOfFour(int c) {
            if (!hasFour(c)) {
                return 0;
            }
            int first = firstChildOf(c);
            return amounts[first] + amounts[first + 1] + amounts[first + 2] + amounts[first + 3];
        }

        void makeOneOfFour(int c) {
            if (!hasFour(c)) {
                return;
            }
            int first = firstChildOf(c);
            kinds[c] = c < COARSE ? CELL : FINE;
            amounts[c] = sumOfFour(c);
            given[c] = given[first];
            for (int q = 0; q < 4; q++) {
                kinds[first + q] = MISSING;
            }
            paint(c);
        }

        /** From the greatest name down, so that those that come have been passed already. */
        int partAbove(int partMark) {
            int parted = 0;
            for (int c = PARTABLE - 1; c >= 0 && partMark > 0; c--) {
                if (canPart(c) && amounts[c] > partMark) {
                    cutInFour(c);
                    parted++;
                }
            }
            return parted;
        }

        int joinBelow(int joinMark) {
            int joined = 0;
            for (int c = PARTABLE - 1; c >= 0 && joinMark > 0; c--) {
                if (hasFourFine(c) && sumOfFour(c) < joinMark) {
                    makeOneOfFour(c);
                    joined++;
                }
            }
            return joined;
        }

        void handOver(int from, int to) {
            for (int c = 0; c < NAMES; c++) {
                if (isThere(c) && given[c] == from) {
                    given[c] = to;
                }
            }
        }

        int cellsThere() {
            int there = 0;
            for (int c = 0; c < NAMES; c++) {
                if (kinds[c] != MISSING) {
                    there++;
                }
            }
            return there;
        }

        int cellsOfKind(int kind) {
            int there = 0;
            for (int c = 0; c < NAMES; c++) {
                if (kinds[c] == kind) {
                    there++;
                }
            }
            return there;
        }

        long sumOfAmounts() {
            long all = 0;
            for (int c = 0; c < NAMES; c++) {
                if (isThere(c)) {
                    all += amounts[c];
                }
            }
            return all;
        }

        long sumByNames() {
            long all = 0;
            for (int c = 0; c < NAMES; c++) {
                if (isThere(c)) {
                    all += (long) amounts[c] * (c + 1);
                }
            }
            return all;
        }

        /** The squares' sides that two cells share, by their places alone. */
        int sidesBetween(int a, int b) {
            int down = overlap(high[a], wide[a], high[b], wide[b]);
            int across = overlap(left[a], wide[a], left[b], wide[b]);
            if (left[a] + wide[a] == left[b] || left[b] + wide[b] == left[a]) {
                return down;
            }
            if (high[a] + wide[a] == high[b] || high[b] + wide[b] == high[a]) {
                return across;
            }
            return 0;
        }

        private static int overlap(int from, int length, int otherFrom, int otherLength) {
            int start = Math.max(from, otherFrom);
            int end = Math.min(from + length, otherFrom + otherLength);
            return Math.max(0, end - start);
        }

        long fold(long start) {
            long h = start;
            for (int c = 0; c < NAMES; c++) {
                if (isThere(c)) {
                    h = 31 * h + c;
                    h = 31 * h + kinds[c];
                    h = 31 * h + amounts[c];
                    h = 31 * h + given[c];
                }
            }
            return h;
        }
    }

    /** Which cells lie beside which, and along the curve; made anew only when the world was cut anew. */
    private static final class Layout {
        /** Two for each of the 480 sides between squares: more links there can't be. */
        private static final int LINKS = 960;

        private final int[] first;
        private final int[] beside;
        private final int[] sides;
        private final int[] rims;
        private final int[] order;
        private int links;
        private int cells;

        Layout() {
            first = new int[NAMES + 1];
            beside = new int[LINKS];
            sides = new int[LINKS];
            rims = new int[NAMES];
            order = new int[SQUARES];
        }

        void refresh(World world) {
            if (!world.isRecut) {
                return;
            }
            world.isRecut = false;
            links = 0;
            for (int c = 0; c < NAMES; c++) {
                first[c] = links;
                rims[c] = 0;
                if (world.isThere(c)) {
                    linkAll(world, c);
                }
            }
            first[NAMES] = links;
            lineUp(world);
        }

        private void linkAll(World world, int c) {
            int x = world.left[c];
            int y = world.high[c];
            int side = world.wide[c];
            for (int i = 0; i < side; i++) {
                link(world, c, x - 1, y + i);
            }
            for (int i = 0; i < side; i++) {
                link(world, c, x + side, y + i);
            }
            for (int i = 0; i < side; i++) {
                link(world, c, x + i, y - 1);
            }
            for (int i = 0; i < side; i++) {
                link(world, c, x + i, y + side);
            }
        }

        /** A neighbour's squares come one behind the other, so only the last link can be its own. */
        private void link(World world, int c, int x, int y) {
            int other = world.ownerAt(x, y);
            if (other == MISSING) {
                rims[c]++;
            } else if (links > first[c] && beside[links - 1] == other) {
                sides[links - 1]++;
            } else if (links < LINKS) {
                beside[links] = other;
                sides[links] = 1;
                links++;
            }
        }

        private void lineUp(World world) {
            cells = 0;
            for (int s = 0; s < SQUARES; s++) {
                int x = evenBits(s);
                int y = evenBits(s >> 1);
                int c = world.ownerAt(x, y);
                // a cell's least square is its own upper left one
                if (isName(c) && world.left[c] == x && world.high[c] == y) {
                    order[cells] = c;
                    cells++;
                }
            }
        }

        private static int evenBits(int s) {
            return (s & 1) | (s >> 1 & 2) | (s >> 2 & 4) | (s >> 3 & 8);
        }

        int cellAt(int i) {
            return i >= 0 && i < cells && i < SQUARES ? order[i] : NONE;
        }

        int partnersOf(World world, int c, int open) {
            if (!world.isFlowing(c)) {
                return 0;
            }
            int partners = open == 1 && rims[c] > 0 ? 1 : 0;
            for (int k = first[c]; k < first[c + 1] && k < LINKS; k++) {
                if (world.isFlowing(beside[k])) {
                    partners++;
                }
            }
            return partners;
        }
    }

    /** What goes from cell to cell in a tick, and what left and was put in by all of them. */
    private static final class Flows {
        /** Amounts as the latest tick began; -1 for cells that were not there or were FROZEN. */
        private final int[] began;
        private final int[] gone;
        private final int[] come;
        private int rimGone;
        private int latestN;
        private int latestM;
        private long leftInAll;
        private long putInAll;

        Flows() {
            began = new int[NAMES];
            gone = new int[NAMES];
            come = new int[NAMES];
            latestM = 1;
            for (int c = 0; c < NAMES; c++) {
                began[c] = -1;
            }
        }

        /** False: an amount would be beyond; nothing has been changed that a call could tell. */
        boolean reckon(World world, Layout layout, Law law) {
            rimGone = 0;
            for (int c = 0; c < NAMES; c++) {
                gone[c] = 0;
                come[c] = 0;
            }
            for (int c = 0; c < NAMES; c++) {
                if (world.isFlowing(c)) {
                    sendFrom(world, layout, law, c);
                }
            }
            for (int c = 0; c < NAMES; c++) {
                if (world.isThere(c) && world.kinds[c] != EDGE && !isAmount(amountBehind(world, c))) {
                    return false;
                }
            }
            return true;
        }

        private void sendFrom(World world, Layout layout, Law law, int c) {
            int amount = world.amounts[c];
            int side = world.wide[c];
            for (int k = layout.first[c]; k < layout.first[c + 1] && k < Layout.LINKS; k++) {
                int other = layout.beside[k];
                if (world.isFlowing(other)) {
                    int sent = flowOf(amount, law.n, law.m, layout.sides[k], side);
                    gone[c] += sent;
                    come[other] += sent;
                }
            }
            if (law.open == 1) {
                int sent = flowOf(amount, law.n, law.m, layout.rims[c], side);
                gone[c] += sent;
                rimGone += sent;
            }
        }

        private int amountBehind(World world, int c) {
            return world.amounts[c] - gone[c] + come[c];
        }

        void settle(World world, Law law) {
            latestN = law.n;
            latestM = law.m;
            leftInAll += rimGone;
            for (int c = 0; c < NAMES; c++) {
                began[c] = -1;
                if (world.isFlowing(c)) {
                    began[c] = world.amounts[c];
                    settleCell(world, c);
                }
            }
        }

        private void settleCell(World world, int c) {
            if (world.kinds[c] == EDGE) {
                putInAll += gone[c];
                leftInAll += come[c];
                world.marks[c] = come[c];
                return;
            }
            if (world.kinds[c] == SEEN) {
                world.marks[c] = world.amounts[c];
            }
            world.amounts[c] = amountBehind(world, c);
        }

        int between(World world, int a, int b) {
            if (began[a] < 0 || began[b] < 0) {
                return 0;
            }
            return flowOf(began[a], latestN, latestM, world.sidesBetween(a, b), world.wide[a]);
        }
    }

    /** The machines: their kinds, their work, and when they ended in the latest run. */
    private static final class Crew {
        private final int[] kinds;
        private final int[] ends;
        private final int[] waitedFor;
        private final int[] endsAhead;
        private final int[] works;
        /** By machine, the machines beside it as bits. */
        private final int[] beside;

        Crew() {
            kinds = new int[MACHINES];
            ends = new int[MACHINES];
            waitedFor = new int[MACHINES];
            endsAhead = new int[MACHINES];
            works = new int[MACHINES];
            beside = new int[MACHINES];
            for (int m = 0; m < MACHINES; m++) {
                waitedFor[m] = NONE;
            }
        }

        boolean isSpare(int m) {
            return isMachine(m) && kinds[m] == SPARE;
        }

        boolean hasSpareIn(int set) {
            for (int m = 0; m < MACHINES; m++) {
                if (isIn(set, m) && isSpare(m)) {
                    return true;
                }
            }
            return false;
        }

        int firstSpare() {
            for (int m = 0; m < MACHINES; m++) {
                if (isSpare(m)) {
                    return m;
                }
            }
            return NONE;
        }

        int sparesBelow(int end) {
            int spares = 0;
            for (int m = 0; m < end && m < MACHINES; m++) {
                if (isSpare(m)) {
                    spares++;
                }
            }
            return spares;
        }

        int cellsOf(World world, int m) {
            int has = 0;
            for (int c = 0; c < NAMES; c++) {
                if (world.isThere(c) && world.given[c] == m) {
                    has++;
                }
            }
            return has;
        }

        int greatestOf(World world, int m) {
            int greatest = 0;
            for (int c = 0; c < NAMES; c++) {
                if (world.isThere(c) && world.given[c] == m) {
                    greatest = Math.max(greatest, world.amounts[c]);
                }
            }
            return greatest;
        }

        int workOf(World world, int m) {
            int all = 0;
            for (int c = 0; c < NAMES; c++) {
                if (world.isThere(c) && world.given[c] == m) {
                    all += workFor(world, c, m);
                }
            }
            return all;
        }

        private int workFor(World world, int c, int m) {
            return world.kinds[c] == FROZEN ? 0 : slowness(m);
        }

        private int slowness(int m) {
            return kinds[m] == SLOW ? 2 : 1;
        }

        private static boolean isIn(int set, int m) {
            return (set >> m & 1) == 1;
        }

        /** Counts the sides between unlike machines, and notes which machines lie beside which. */
        int lookAround(World world) {
            int cutSides = 0;
            for (int m = 0; m < MACHINES; m++) {
                beside[m] = 0;
            }
            for (int y = 0; y < ACROSS; y++) {
                for (int x = 0; x < ACROSS; x++) {
                    int here = world.giverAt(x, y);
                    if (x + 1 < ACROSS) {
                        cutSides += meet(here, world.giverAt(x + 1, y));
                    }
                    if (y + 1 < ACROSS) {
                        cutSides += meet(here, world.giverAt(x, y + 1));
                    }
                }
            }
            return cutSides;
        }

        private int meet(int a, int b) {
            if (a == b || !isMachine(a) || !isMachine(b)) {
                return 0;
            }
            beside[a] |= 1 << b;
            beside[b] |= 1 << a;
            return 1;
        }

        /** Each machine takes all that fits below the least limit that suffices: that is the deal, and the most for the first. */
        int shareOut(World world, Layout layout, int set) {
            int limit = leastLimit(set, layout.cells - world.cellsOfKind(FROZEN));
            int place = 0;
            for (int m = 0; m < MACHINES; m++) {
                if (isIn(set, m)) {
                    place = takeUpTo(world, layout, m, place, limit);
                }
            }
            return limit;
        }

        private int leastLimit(int set, int working) {
            int limit = 0;
            for (; limit < 2 * SQUARES; limit++) {
                int room = 0;
                for (int m = 0; m < MACHINES; m++) {
                    if (isIn(set, m)) {
                        room += kinds[m] == SLOW ? limit / 2 : limit;
                    }
                }
                if (room >= working) {
                    return limit;
                }
            }
            return limit;
        }

        private int takeUpTo(World world, Layout layout, int m, int from, int limit) {
            int load = 0;
            int i = from;
            for (; i < layout.cells; i++) {
                int c = layout.cellAt(i);
                if (!isName(c)) {
                    return i;
                }
                load += workFor(world, c, m);
                if (load > limit) {
                    return i;
                }
                world.given[c] = m;
            }
            return i;
        }

        int workThrough(World world, int n, int wait) {
            lookAround(world);
            for (int m = 0; m < MACHINES; m++) {
                works[m] = workOf(world, m);
                ends[m] = 0;
            }
            for (int t = 0; t < n; t++) {
                System.arraycopy(ends, 0, endsAhead, 0, MACHINES);
                for (int m = 0; m < MACHINES; m++) {
                    workTick(m, wait);
                }
            }
            int last = 0;
            for (int m = 0; m < MACHINES; m++) {
                last = Math.max(last, ends[m]);
            }
            return last;
        }

        private void workTick(int m, int wait) {
            int latest = endsAhead[m];
            int who = m;
            for (int other = 0; other < MACHINES; other++) {
                if (isIn(beside[m], other) && endsAhead[other] + wait > latest) {
                    latest = endsAhead[other] + wait;
                    who = other;
                }
            }
            ends[m] = latest + works[m];
            waitedFor[m] = who;
        }
    }

    /** A kept state, with the two sums by which a flip is found. */
    private static final class Kept {
        private final int[] kinds;
        private final int[] amounts;
        private final int[] given;
        private int ticks;
        private long sumOfAmounts;
        private long sumByNames;
        private boolean isKept;

        Kept() {
            kinds = new int[NAMES];
            amounts = new int[NAMES];
            given = new int[NAMES];
        }

        void take(World world) {
            System.arraycopy(world.kinds, 0, kinds, 0, NAMES);
            System.arraycopy(world.amounts, 0, amounts, 0, NAMES);
            System.arraycopy(world.given, 0, given, 0, NAMES);
            ticks = world.ticks;
            sumOfAmounts = world.sumOfAmounts();
            sumByNames = world.sumByNames();
            isKept = true;
        }

        void bringBack(World world) {
            System.arraycopy(amounts, 0, world.amounts, 0, NAMES);
            System.arraycopy(given, 0, world.given, 0, NAMES);
            world.ticks = ticks;
            for (int c = 0; c < NAMES; c++) {
                world.become(c, kinds[c]);
            }
            world.paintAll();
        }

        boolean hasSameCells(World world) {
            for (int c = 0; c < NAMES; c++) {
                if (world.isThere(c) != (kinds[c] != MISSING)) {
                    return false;
                }
            }
            return true;
        }

        int othersIn(World world) {
            int others = 0;
            for (int c = 0; c < NAMES; c++) {
                if (world.isThere(c) && world.amounts[c] != amounts[c]) {
                    others++;
                }
            }
            return others;
        }

        int moreIn(World world) {
            return (int) (world.sumOfAmounts() - sumOfAmounts);
        }

        int flippedIn(World world) {
            long more = world.sumOfAmounts() - sumOfAmounts;
            return more == 0 ? NONE : (int) ((world.sumByNames() - sumByNames) / more) - 1;
        }
    }

    /** How much of one unit in each cell would be in a told one: worked from the end back, over one lower number. */
    private static final class Shares {
        private long[] of;
        private long[] ahead;
        private long whole;

        Shares() {
            of = new long[NAMES];
            ahead = new long[NAMES];
            whole = 1;
        }

        void reckon(World world, Layout layout, Law law, int to, int t) {
            for (int c = 0; c < NAMES; c++) {
                of[c] = c == to ? 1 : 0;
            }
            whole = 1;
            for (int step = 0; step < t; step++) {
                long[] behind = of;
                of = ahead;
                ahead = behind;
                for (int c = 0; c < NAMES; c++) {
                    of[c] = world.isThere(c) ? stepBack(world, layout, law, c) : 0;
                }
                whole *= 16L * law.m;
            }
        }

        /** A cell's side is 4, 2 or 1, so all its flows are whole numbers of 16 m-ths. */
        private long stepBack(World world, Layout layout, Law law, int c) {
            long kept = 16L * law.m;
            if (!world.isFlowing(c) || world.kinds[c] == EDGE || world.wide[c] < 1) {
                return kept * ahead[c];
            }
            long forSide = law.n * (4L / world.wide[c]);
            long all = 0;
            for (int k = layout.first[c]; k < layout.first[c + 1] && k < Layout.LINKS; k++) {
                int other = layout.beside[k];
                if (world.isFlowing(other)) {
                    kept -= forSide * layout.sides[k];
                    all += forSide * layout.sides[k] * ahead[other];
                }
            }
            if (law.open == 1) {
                kept -= forSide * layout.rims[c];
            }
            return all + kept * ahead[c];
        }

        int greatest(World world, int otherwise) {
            int best = otherwise;
            long most = -1;
            for (int c = 0; c < NAMES; c++) {
                if (world.isThere(c) && of[c] > most) {
                    most = of[c];
                    best = c;
                }
            }
            return best;
        }
    }

    /** The fraction that was told last, in lowest terms. */
    private static final class Fraction {
        /** Euclid's steps on longs are fewer than this. */
        private static final int STEPS = 100;

        private long above;
        private long below;

        Fraction() {
            below = 1;
        }

        void tell(long up, long down) {
            long a = up;
            long b = down;
            for (int i = 0; i < STEPS && b != 0; i++) {
                long rest = a % b;
                a = b;
                b = rest;
            }
            if (a == 0) {
                return;
            }
            above = up / a;
            below = down / a;
        }
    }
}
