import java.util.Arrays;

/**
 * A store in BANKS: a TABLE laid by a LAW, CUTS and WISHES over it, STREAMS of
 * asks, PROGRAMS of long ROWS and SHEETS. The words in capitals are those of
 * the document; every row that a call needs is made once, in a constructor.
 */
public final class BankStore {
    public static final int BAD = -1, STATE = -2, FULL = -3, NONE = -4, SPENT = -6;

    private static final int MOST_SIDE = 16, MOST_BANKS = 17, MOST_FACTOR = 16;
    private static final int MOST_WISHES = 6, MOST_FREE_CELLS = 64, MOST_TRIES = 20000;
    private static final int MOST_REST = 12, MOST_ASKS = 200, MOST_QUEUE = 8, MOST_ROUNDS = 64;
    private static final int MOST_ADDRESS = 999, MOST_STEP = 99;
    private static final int TAPE_BYTES = 240, MOST_LINES = 16, MOST_ELEMENTS = 64, ROWS = 8;
    private static final int SHEETS = 4, MOST_SHEET_CELLS = 256;
    private static final int LAW_SUM = 0, LAW_XOR = 1, LAW_TOLD = 2;
    private static final int LOAD = 0, STORE = 1, ADD = 2, MUL = 3;
    private static final int PORT = 0, ADDER = 1, MULTIPLIER = 2, UNITS = 3;
    private static final int NULL_FAULT = 1, INDEX_FAULT = 2, CAST_FAULT = 3, SIZE_FAULT = 4;

    private final Layout store;
    private final Layout trial;
    private final Shape asked;
    private final int[] tally;
    private final Wishes wishes;
    private final LawSearch laws;
    private final FreeSearch search;
    private final Streams streams;
    private final Rates rates;
    private final Reader reader;
    private final Timer timer;
    private final Sheet[] sheets;
    private Program told;
    private Program draft;
    private int rest;

    public BankStore() {
        store = new Layout(new int[MOST_SIDE * MOST_SIDE]);
        trial = new Layout(store.told);
        asked = new Shape();
        tally = new int[MOST_BANKS];
        wishes = new Wishes();
        laws = new LawSearch();
        search = new FreeSearch();
        streams = new Streams();
        rates = new Rates();
        reader = new Reader();
        timer = new Timer();
        sheets = new Sheet[SHEETS];
        for (int k = 0; k < SHEETS; k++) {
            sheets[k] = new Sheet();
        }
        told = new Program();
        draft = new Program();
        rest = 4;
    }

    // ---- the table

    public int table(int h, int w) {
        if (!within(h, 1, MOST_SIDE) || !within(w, 1, MOST_SIDE)) {
            return BAD;
        }
        store.h = h;
        store.w = w;
        Arrays.fill(store.told, 0);
        return 1;
    }

    public int banks(int m) {
        if (!within(m, 1, MOST_BANKS)) {
            return BAD;
        }
        int was = store.m;
        store.m = m;
        Arrays.fill(store.told, 0);
        return was;
    }

    public int law(int sort, int a, int b) {
        if (!within(sort, LAW_SUM, LAW_TOLD)) {
            return BAD;
        }
        if (sort != LAW_TOLD) {
            if (!within(a, 0, MOST_FACTOR) || !within(b, 0, MOST_FACTOR)) {
                return BAD;
            }
            store.a = a;
            store.b = b;
        }
        int was = store.sort;
        store.sort = sort;
        return was;
    }

    public int lay(int i, int j, int v) {
        if (!store.has(i, j) || !within(v, 0, store.m - 1)) {
            return BAD;
        }
        int was = store.told[spot(i, j)];
        store.told[spot(i, j)] = v;
        return was;
    }

    public int cell(int i, int j, int what) {
        if (!store.has(i, j) || !within(what, 0, 2)) {
            return BAD;
        }
        if (what == 0) {
            return store.bankAt(i, j);
        }
        return what == 1 ? store.placeOf(i, j) : store.told[spot(i, j)];
    }

    public int bank(int v, int what) {
        if (!within(v, 0, store.m - 1) || !within(what, 0, 2)) {
            return BAD;
        }
        if (what == 0) {
            return store.sizeOf(v);
        }
        return what == 1 ? store.firstOf(v) : store.lastOf(v);
    }

    // ---- cuts, wishes

    public int cut(int kind, int n, int m, int i, int j) {
        if (!isShape(kind, n, m)) {
            return BAD;
        }
        asked.become(kind, n, m);
        return asked.fits(store, i, j) ? asked.beatsAt(store, i, j, tally) : BAD;
    }

    public int cuts(int kind, int n, int m, int what) {
        if (!isShape(kind, n, m) || !within(what, 0, 4)) {
            return BAD;
        }
        asked.become(kind, n, m);
        int all = 0;
        int single = 0;
        int most = 0;
        int sum = 0;
        int first = NONE;
        for (int i = 0; i < store.h; i++) {
            for (int j = 0; j < store.w; j++) {
                if (asked.fits(store, i, j)) {
                    int beats = asked.beatsAt(store, i, j, tally);
                    all++;
                    single += beats == 1 ? 1 : 0;
                    sum += beats;
                    if (beats > most) {
                        most = beats;
                        first = spot(i, j);
                    }
                }
            }
        }
        switch (what) {
            case 0: return all;
            case 1: return single;
            case 2: return most;
            case 3: return sum;
            default: return first;
        }
    }

    public int wish(int kind, int n, int m) {
        if (!isShape(kind, n, m)) {
            return BAD;
        }
        return wishes.add(kind, n, m);
    }

    public int forget() {
        int was = wishes.size;
        wishes.size = 0;
        return was;
    }

    public int granted() {
        return wishes.grantedBy(store);
    }

    public int fewest(int sort, int what) {
        if (!within(sort, LAW_SUM, LAW_XOR) || !within(what, 0, 3)) {
            return BAD;
        }
        trial.takeTable(store);
        laws.howMany = 0;
        int m = 0;
        // A CUT of more CELLS than BANKS clashes under every law, so none below the bound is tried.
        for (int next = wishes.largestCut(store); next <= MOST_BANKS && laws.howMany == 0; next++) {
            m = next;
            laws.weighAll(trial, sort, m, wishes);
        }
        if (laws.howMany == 0) {
            return NONE;
        }
        switch (what) {
            case 0: return m;
            case 1: return laws.howMany;
            case 2: return laws.firstA;
            default: return laws.firstB;
        }
    }

    public int bound() {
        return wishes.largestCut(store);
    }

    public int free() {
        if (store.cellCount() > MOST_FREE_CELLS) {
            return STATE;
        }
        search.gather(store, wishes);
        int tries = search.seek(store.m);
        if (tries > 0) {
            search.copyTo(store);
        }
        return tries;
    }

    public int freeBanks() {
        if (store.cellCount() > MOST_FREE_CELLS) {
            return STATE;
        }
        search.gather(store, wishes);
        for (int m = 1; m <= MOST_BANKS; m++) {
            int tries = search.seek(m);
            if (tries > 0) {
                return m;
            }
            if (tries == SPENT) {
                return SPENT;
            }
        }
        return NONE;
    }

    // ---- streams

    public int rest(int r) {
        if (!within(r, 1, MOST_REST)) {
            return BAD;
        }
        int was = rest;
        rest = r;
        return was;
    }

    public int inOrder(int from, int s, int n) {
        if (!isStream(from, s) || !within(n, 1, MOST_ASKS)) {
            return BAD;
        }
        return streams.beatOf(store, rest, from, s, n - 1) + rest;
    }

    public int beat(int from, int s, int k) {
        if (!isStream(from, s) || !within(k, 0, MOST_ASKS - 1)) {
            return BAD;
        }
        return streams.beatOf(store, rest, from, s, k);
    }

    public int queued(int from, int s, int n, int q, int what) {
        if (!isStream(from, s) || !within(n, 1, MOST_ASKS)
                || !within(q, 1, MOST_QUEUE) || !within(what, 0, 2)) {
            return BAD;
        }
        streams.runQueues(store, rest, from, s, n, q);
        if (what == 0) {
            return streams.doneAt;
        }
        return what == 1 ? streams.waits : streams.longest;
    }

    public int rate(int from, int s, int what) {
        if (!isStream(from, s) || !within(what, 0, 2)) {
            return BAD;
        }
        if (!rates.seek(store, rest, from, s)) {
            return SPENT;
        }
        if (what == 0) {
            return rates.asks;
        }
        return what == 1 ? rates.beats : rates.rounds;
    }

    public int steps(int what) {
        if (!within(what, 0, 1)) {
            return BAD;
        }
        int full = 0;
        int slowest = 0;
        int leastAsks = 0;
        int leastBeats = 0;
        for (int s = 1; s <= MOST_STEP; s++) {
            if (!rates.seek(store, rest, 0, s)) {
                return SPENT;
            }
            full += rates.asks == rates.beats ? 1 : 0;
            if (slowest == 0 || (long) rates.asks * leastBeats < (long) leastAsks * rates.beats) {
                slowest = s;
                leastAsks = rates.asks;
                leastBeats = rates.beats;
            }
        }
        return what == 0 ? full : slowest;
    }

    // ---- programs

    public int feed(long v) {
        return reader.append(v);
    }

    public int end(int n) {
        if (!within(n, 0, reader.length)) {
            return BAD;
        }
        int was = reader.length;
        reader.length = n;
        return was;
    }

    public int program() {
        boolean fine = reader.readInto(draft);
        reader.length = 0;
        if (!fine) {
            return -10 - reader.faultPlace;
        }
        Program spare = told;
        told = draft;
        draft = spare;
        return told.size;
    }

    public int fault() {
        return reader.faultSort;
    }

    public int line(int k, int what) {
        if (!within(k, 0, told.size - 1) || !within(what, 0, 3)) {
            return BAD;
        }
        switch (what) {
            case 0: return told.kind[k];
            case 1: return told.row[k];
            case 2: return told.second[k];
            default: return told.third[k];
        }
    }

    public int time(int l, boolean linked, int k) {
        if (!within(l, 1, MOST_ELEMENTS) || (k != NONE && !within(k, 0, told.size - 1))) {
            return BAD;
        }
        timer.run(store, rest, told, l, linked);
        return k == NONE ? timer.latest : timer.thereAt(k, l - 1);
    }

    public int when(int l, boolean linked, int k, int e, int what) {
        if (!within(l, 1, MOST_ELEMENTS) || !within(k, 0, told.size - 1)
                || !within(e, 0, l - 1) || !within(what, 0, 1)) {
            return BAD;
        }
        timer.run(store, rest, told, l, linked);
        return what == 0 ? timer.goesAt(k, e) : timer.thereAt(k, e);
    }

    public int used(int l, boolean linked, int unit, int what) {
        if (!within(l, 1, MOST_ELEMENTS) || !within(unit, PORT, MULTIPLIER) || !within(what, 0, 1)) {
            return BAD;
        }
        if (what == 0) {
            return told.linesOf(unit) * l;
        }
        timer.run(store, rest, told, l, linked);
        return timer.latest;
    }

    public int tuned(int l, boolean linked, int what) {
        if (!within(l, 1, MOST_ELEMENTS) || !within(what, 0, 2)) {
            return BAD;
        }
        trial.takeTable(store);
        int bestA = 0;
        int bestB = 0;
        int best = -1;
        for (int a = 0; a < store.m; a++) {
            for (int b = 0; b < store.m; b++) {
                trial.takeLaw(LAW_SUM, a, b, store.m);
                timer.run(trial, rest, told, l, linked);
                if (best < 0 || timer.latest < best) {
                    best = timer.latest;
                    bestA = a;
                    bestB = b;
                }
            }
        }
        if (what == 0) {
            return bestA;
        }
        return what == 1 ? bestB : best;
    }

    // ---- sheets

    public int sheet(int k, int lane, int n) {
        if (!within(k, 0, SHEETS - 1) || !within(lane, 0, 2) || n > MOST_SHEET_CELLS) {
            return BAD;
        }
        if (n < 0) {
            return -10 - SIZE_FAULT;
        }
        sheets[k].renew(lane, n);
        return 1;
    }

    public int write(int k, int i, int v) {
        if (!within(k, 0, SHEETS - 1)) {
            return BAD;
        }
        Sheet to = sheets[k];
        if (to.isNothing()) {
            return -10 - NULL_FAULT;
        }
        if (!to.has(i)) {
            return -10 - INDEX_FAULT;
        }
        to.put(i, v);
        return 1;
    }

    public int read(int k, int lane, int f) {
        if (!within(k, 0, SHEETS - 1) || !within(lane, 0, 2)) {
            return BAD;
        }
        Sheet of = sheets[k];
        if (of.isNothing()) {
            return -10 - NULL_FAULT;
        }
        if (of.lane != lane) {
            return -10 - CAST_FAULT;
        }
        int refused = of.refusal(store, f);
        return refused < 0 ? refused : of.copyTo(store, f);
    }

    public int count(int what) {
        switch (what) {
            case 0: return store.h;
            case 1: return store.w;
            case 2: return store.m;
            case 3: return store.sort;
            case 4: return store.a;
            case 5: return store.b;
            case 6: return wishes.size;
            case 7: return rest;
            case 8: return told.size;
            case 9: return reader.length;
            case 10: return sheets[0].isNothing() ? NONE : sheets[0].size;
            default: return BAD;
        }
    }

    // ---- what all parts share

    private static boolean within(int v, int least, int most) {
        return v >= least && v <= most;
    }

    private static boolean isShape(int kind, int n, int m) {
        return within(kind, Shape.ALONG_ROW, Shape.BLOCK) && within(n, 1, 16) && within(m, 1, 8);
    }

    private static boolean isStream(int from, int s) {
        return within(from, 0, MOST_ADDRESS) && within(s, 1, MOST_STEP);
    }

    /** Rows lie 16 apart whatever the width is, so a spot is also the answer "row times 16 and column". */
    private static int spot(int i, int j) {
        return i * MOST_SIDE + j;
    }

    private static int greatestDivisor(int x, int y) {
        int big = x;
        int small = y;
        // Two steps at least halve the number, so 64 are more than an int can need.
        for (int k = 0; k < 64 && small != 0; k++) {
            int left = big % small;
            big = small;
            small = left;
        }
        return big;
    }

    /** THE TABLE with BANKS and a LAW: one is the store's, the other one holds laws that are only tried. */
    private static final class Layout {
        int h = 8;
        int w = 8;
        int m = 8;
        int sort = LAW_SUM;
        int a = 0;
        int b = 1;
        final int[] told;

        Layout(int[] told) {
            this.told = told;
        }

        void takeTable(Layout other) {
            h = other.h;
            w = other.w;
        }

        void takeLaw(int newSort, int newA, int newB, int newM) {
            sort = newSort;
            a = newA;
            b = newB;
            m = newM;
        }

        boolean has(int i, int j) {
            return i >= 0 && i < h && j >= 0 && j < w;
        }

        int cellCount() {
            return h * w;
        }

        int bankAt(int i, int j) {
            if (sort == LAW_TOLD) {
                return told[spot(i, j)];
            }
            int mixed = sort == LAW_SUM ? a * i + b * j : (a * i) ^ (b * j);
            return mixed % m;
        }

        int bankOfAddress(int address) {
            int c = address % cellCount();
            return bankAt(c / w, c % w);
        }

        int placeOf(int i, int j) {
            int v = bankAt(i, j);
            int ahead = 0;
            for (int c = 0; c < i * w + j; c++) {
                ahead += bankAt(c / w, c % w) == v ? 1 : 0;
            }
            return ahead;
        }

        int sizeOf(int v) {
            int size = 0;
            for (int c = 0; c < cellCount(); c++) {
                size += bankAt(c / w, c % w) == v ? 1 : 0;
            }
            return size;
        }

        int firstOf(int v) {
            for (int c = 0; c < cellCount(); c++) {
                if (bankAt(c / w, c % w) == v) {
                    return spot(c / w, c % w);
                }
            }
            return NONE;
        }

        int lastOf(int v) {
            for (int c = cellCount() - 1; c >= 0; c--) {
                if (bankAt(c / w, c % w) == v) {
                    return spot(c / w, c % w);
                }
            }
            return NONE;
        }
    }

    /** What a CUT looks like, wherever it is. */
    private static final class Shape {
        static final int ALONG_ROW = 0, ALONG_COLUMN = 1, OTHER_SLANT = 3, BLOCK = 4;

        int kind = ALONG_ROW;
        int n = 1;
        int m = 1;

        void become(int newKind, int newN, int newM) {
            kind = newKind;
            n = newN;
            m = newM;
        }

        int size() {
            return kind == BLOCK ? n * m : n;
        }

        int rowsDown(int k) {
            if (kind == BLOCK) {
                return k / m;
            }
            return kind == ALONG_ROW ? 0 : k * m;
        }

        int columnsRight(int k) {
            if (kind == BLOCK) {
                return k % m;
            }
            if (kind == ALONG_COLUMN) {
                return 0;
            }
            return kind == OTHER_SLANT ? -k * m : k * m;
        }

        /** All CELLS lie between the first and the last one, so these two speak for all. */
        boolean fits(Layout on, int i, int j) {
            int last = size() - 1;
            return on.has(i, j) && on.has(i + rowsDown(last), j + columnsRight(last));
        }

        int beatsAt(Layout on, int i, int j, int[] tally) {
            Arrays.fill(tally, 0);
            int most = 0;
            for (int k = 0; k < size(); k++) {
                int v = on.bankAt(i + rowsDown(k), j + columnsRight(k));
                tally[v]++;
                most = Math.max(most, tally[v]);
            }
            return most;
        }

        boolean clashesAt(Layout on, int i, int j) {
            int seen = 0;
            for (int k = 0; k < size(); k++) {
                int bit = 1 << on.bankAt(i + rowsDown(k), j + columnsRight(k));
                if ((seen & bit) != 0) {
                    return true;
                }
                seen |= bit;
            }
            return false;
        }

        boolean isSomewhere(Layout on) {
            for (int i = 0; i < on.h; i++) {
                for (int j = 0; j < on.w; j++) {
                    if (fits(on, i, j)) {
                        return true;
                    }
                }
            }
            return false;
        }

        boolean isGrantedBy(Layout on) {
            for (int i = 0; i < on.h; i++) {
                for (int j = 0; j < on.w; j++) {
                    if (fits(on, i, j)) {
                        if (clashesAt(on, i, j)) {
                            return false;
                        }
                        // Law 0 moves all BANKS of a CUT alike from place to place: one place speaks for all.
                        if (on.sort == LAW_SUM) {
                            return true;
                        }
                    }
                }
            }
            return true;
        }
    }

    private static final class Wishes {
        final Shape[] shapes = new Shape[MOST_WISHES];
        int size = 0;

        Wishes() {
            for (int k = 0; k < MOST_WISHES; k++) {
                shapes[k] = new Shape();
            }
        }

        int add(int kind, int n, int m) {
            if (size >= MOST_WISHES) {
                return FULL;
            }
            shapes[size].become(kind, n, m);
            size++;
            return size - 1;
        }

        int grantedBy(Layout on) {
            int bits = 0;
            for (int k = 0; k < size; k++) {
                if (shapes[k].isGrantedBy(on)) {
                    bits |= 1 << k;
                }
            }
            return bits;
        }

        boolean allGrantedBy(Layout on) {
            for (int k = 0; k < size; k++) {
                if (!shapes[k].isGrantedBy(on)) {
                    return false;
                }
            }
            return true;
        }

        int largestCut(Layout on) {
            int most = 1;
            for (int k = 0; k < size; k++) {
                if (shapes[k].isSomewhere(on)) {
                    most = Math.max(most, shapes[k].size());
                }
            }
            return most;
        }
    }

    /** The laws of one sort that GRANT all WISHES: how many, and the first of them. */
    private static final class LawSearch {
        int howMany;
        int firstA;
        int firstB;

        void weighAll(Layout trial, int sort, int m, Wishes wishes) {
            for (int a = 0; a < m; a++) {
                for (int b = 0; b < m; b++) {
                    trial.takeLaw(sort, a, b, m);
                    if (wishes.allGrantedBy(trial)) {
                        if (howMany == 0) {
                            firstA = a;
                            firstB = b;
                        }
                        howMany++;
                    }
                }
            }
        }
    }

    /** The FREE LAYING; its CELLS are numbered row by row without gaps, so that 64 fit the bits of a long. */
    private static final class FreeSearch {
        final long[] rivals = new long[MOST_FREE_CELLS];
        final long[] held = new long[MOST_BANKS];
        final int[] laid = new int[MOST_FREE_CELLS];
        final int[] greatestAhead = new int[MOST_FREE_CELLS];
        int cells;

        /** Finds for each CELL those that stand with it in a CUT of a WISH. */
        void gather(Layout on, Wishes wishes) {
            cells = Math.min(on.cellCount(), MOST_FREE_CELLS);
            Arrays.fill(rivals, 0L);
            for (int k = 0; k < wishes.size; k++) {
                gatherShape(on, wishes.shapes[k]);
            }
        }

        private void gatherShape(Layout on, Shape shape) {
            for (int i = 0; i < on.h; i++) {
                for (int j = 0; j < on.w; j++) {
                    if (shape.fits(on, i, j)) {
                        gatherCut(on, shape, i, j);
                    }
                }
            }
        }

        private void gatherCut(Layout on, Shape shape, int i, int j) {
            long all = 0;
            for (int k = 0; k < shape.size(); k++) {
                all |= 1L << numberOf(on, shape, i, j, k);
            }
            for (int k = 0; k < shape.size(); k++) {
                rivals[numberOf(on, shape, i, j, k)] |= all;
            }
        }

        private static int numberOf(Layout on, Shape shape, int i, int j, int k) {
            return (i + shape.rowsDown(k)) * on.w + j + shape.columnsRight(k);
        }

        /** The TRIES that it took with m BANKS; NONE, SPENT. */
        int seek(int m) {
            Arrays.fill(held, 0L);
            greatestAhead[0] = -1;
            int c = 0;
            int v = 0;
            for (int tries = 1; tries <= MOST_TRIES; tries++) {
                while (c >= 0 && v > lastToAsk(c, m)) {
                    c--;
                    v = c >= 0 ? lift(c) + 1 : 0;
                }
                if (c < 0) {
                    return NONE;
                }
                if ((held[v] & rivals[c]) != 0) {
                    v++;
                } else {
                    put(c, v);
                    c++;
                    v = 0;
                    if (c >= cells) {
                        return tries;
                    }
                }
            }
            return SPENT;
        }

        private int lastToAsk(int c, int m) {
            return Math.min(m - 1, greatestAhead[c] + 1);
        }

        private void put(int c, int v) {
            laid[c] = v;
            held[v] |= 1L << c;
            if (c + 1 < cells) {
                greatestAhead[c + 1] = Math.max(greatestAhead[c], v);
            }
        }

        private int lift(int c) {
            int v = laid[c];
            held[v] &= ~(1L << c);
            return v;
        }

        void copyTo(Layout to) {
            for (int c = 0; c < cells; c++) {
                to.told[spot(c / to.w, c % to.w)] = laid[c];
            }
        }
    }

    private static final class Streams {
        // 200 asks of one BANK that rests 12 beats need 2400 and some.
        static final int MOST_BEATS = 10000;

        final int[] ready = new int[MOST_BANKS];
        final int[] queue = new int[MOST_BANKS];
        int doneAt;
        int waits;
        int longest;

        int beatOf(Layout on, int rest, int from, int s, int k) {
            Arrays.fill(ready, 0);
            int beat = -1;
            for (int ask = 0; ask <= k; ask++) {
                int v = on.bankOfAddress(from + ask * s);
                beat = Math.max(beat + 1, ready[v]);
                ready[v] = beat + rest;
            }
            return beat;
        }

        void runQueues(Layout on, int rest, int from, int s, int n, int q) {
            Arrays.fill(ready, 0);
            Arrays.fill(queue, 0);
            doneAt = 0;
            waits = 0;
            longest = 0;
            int come = 0;
            int taken = 0;
            for (int t = 0; t < MOST_BEATS && taken < n; t++) {
                taken += takeFirsts(on.m, rest, t);
                if (come < n) {
                    come += enter(on.bankOfAddress(from + come * s), q);
                }
            }
        }

        /** Asks in one QUEUE are all alike, so how many there are is all that is kept. */
        private int takeFirsts(int banks, int rest, int t) {
            int taken = 0;
            for (int v = 0; v < banks; v++) {
                if (queue[v] > 0 && ready[v] <= t) {
                    queue[v]--;
                    ready[v] = t + rest;
                    doneAt = t + rest;
                    taken++;
                }
            }
            return taken;
        }

        private int enter(int v, int q) {
            if (queue[v] >= q) {
                waits++;
                return 0;
            }
            queue[v]++;
            longest = Math.max(longest, queue[v]);
            return 1;
        }
    }

    /** The RATE of an endless STREAM in order. */
    private static final class Rates {
        // What a BANK has still to rest is below 12: four bits, so 16 BANKS fill a long and the 17th stands beside.
        static final int BITS = 4, PACKED = 16;

        final int[] ready = new int[MOST_BANKS];
        final long[] restsOf16 = new long[MOST_ROUNDS];
        final int[] restOfLast = new int[MOST_ROUNDS];
        final int[] endOf = new int[MOST_ROUNDS];
        int asks;
        int beats;
        int rounds;

        /** False: SPENT. */
        boolean seek(Layout on, int rest, int from, int s) {
            Arrays.fill(ready, 0);
            int cells = on.cellCount();
            int asksOfRound = cells / greatestDivisor(cells, s);
            int now = 0;
            for (int r = 0; r < MOST_ROUNDS; r++) {
                for (int k = 0; k < asksOfRound; k++) {
                    int v = on.bankOfAddress(from + k * s);
                    int beat = Math.max(now, ready[v]);
                    ready[v] = beat + rest;
                    now = beat + 1;
                }
                keep(r, now, on.m);
                int same = earlierLike(r);
                if (same >= 0) {
                    settle(r, same, asksOfRound);
                    return true;
                }
            }
            return false;
        }

        private void keep(int r, int now, int banks) {
            long packed = 0;
            int last = 0;
            for (int v = 0; v < banks; v++) {
                int left = Math.max(0, ready[v] - now);
                if (v < PACKED) {
                    packed |= (long) left << (BITS * v);
                } else {
                    last = left;
                }
            }
            restsOf16[r] = packed;
            restOfLast[r] = last;
            endOf[r] = now;
        }

        private int earlierLike(int r) {
            for (int k = 0; k < r; k++) {
                if (restsOf16[k] == restsOf16[r] && restOfLast[k] == restOfLast[r]) {
                    return k;
                }
            }
            return -1;
        }

        private void settle(int r, int same, int asksOfRound) {
            int allAsks = (r - same) * asksOfRound;
            int allBeats = endOf[r] - endOf[same];
            int divisor = Math.max(1, greatestDivisor(allAsks, allBeats));
            asks = allAsks / divisor;
            beats = allBeats / divisor;
            rounds = r + 1;
        }
    }

    /** The lines of a text, and for each the lines that made the ROWS it takes (-1: it takes none). */
    private static final class Program {
        final int[] kind = new int[MOST_LINES];
        final int[] row = new int[MOST_LINES];
        final int[] second = new int[MOST_LINES];
        final int[] third = new int[MOST_LINES];
        final int[] sourceA = new int[MOST_LINES];
        final int[] sourceB = new int[MOST_LINES];
        int size = 0;

        static int unitOf(int kind) {
            if (kind == ADD) {
                return ADDER;
            }
            return kind == MUL ? MULTIPLIER : PORT;
        }

        int linesOf(int unit) {
            int lines = 0;
            for (int k = 0; k < size; k++) {
                lines += unitOf(kind[k]) == unit ? 1 : 0;
            }
            return lines;
        }
    }

    /** THE TAPE and the reading of it. */
    private static final class Reader {
        static final int TEXT_END = 0, NAME = 1, NUMBER = 2, MARK = 3;
        static final int NO_TOKEN = 1, MISPLACED = 2, OUT_OF_BOUNDS = 3, NOT_MADE = 4, TOO_MANY = 5;
        static final int MOST_FIGURES = 4;

        final byte[] tape = new byte[TAPE_BYTES];
        final int[] maker = new int[ROWS];
        int length = 0;
        int faultSort = 0;
        int faultPlace = 0;
        private int next;
        private int token;
        private int start;
        private int number;

        int append(long v) {
            if (length + 8 > TAPE_BYTES) {
                return FULL;
            }
            for (int k = 0; k < 8; k++) {
                tape[length + k] = (byte) (v >>> (56 - 8 * k));
            }
            length += 8;
            return length;
        }

        boolean readInto(Program into) {
            next = 0;
            faultSort = 0;
            faultPlace = 0;
            into.size = 0;
            Arrays.fill(maker, -1);
            for (int k = 0; k <= MOST_LINES; k++) {
                if (!takeToken()) {
                    return false;
                }
                if (token == TEXT_END) {
                    return true;
                }
                int kind = kindNamed();
                if (kind < 0) {
                    return refuse(MISPLACED);
                }
                if (k == MOST_LINES) {
                    return refuse(TOO_MANY);
                }
                if (!readLine(into, kind, k)) {
                    return false;
                }
                into.size = k + 1;
                if (kind != STORE) {
                    maker[into.row[k]] = k;
                }
            }
            return false;
        }

        private boolean readLine(Program into, int kind, int k) {
            boolean move = kind == LOAD || kind == STORE;
            if (!takeRow(kind == STORE)) {
                return false;
            }
            into.kind[k] = kind;
            into.row[k] = number;
            into.sourceA[k] = kind == STORE ? maker[number] : -1;
            into.sourceB[k] = -1;
            if (!(move ? takeNumber(0, MOST_ADDRESS) : takeRow(true))) {
                return false;
            }
            into.second[k] = number;
            if (!(move ? takeNumber(1, MOST_STEP) : takeRow(true))) {
                return false;
            }
            into.third[k] = number;
            if (!move) {
                into.sourceA[k] = maker[into.second[k]];
                into.sourceB[k] = maker[into.third[k]];
            }
            return takeMark();
        }

        /** The ROW's number stands in number then. */
        private boolean takeRow(boolean mustBeMade) {
            if (!takeToken()) {
                return false;
            }
            int row = token == NAME && next - start == 1 ? tape[start] - 'a' : -1;
            if (!within(row, 0, ROWS - 1)) {
                return refuse(MISPLACED);
            }
            if (mustBeMade && maker[row] < 0) {
                return refuse(NOT_MADE);
            }
            number = row;
            return true;
        }

        private boolean takeNumber(int least, int most) {
            if (!takeToken()) {
                return false;
            }
            if (token != NUMBER) {
                return refuse(MISPLACED);
            }
            return within(number, least, most) || refuse(OUT_OF_BOUNDS);
        }

        private boolean takeMark() {
            if (!takeToken()) {
                return false;
            }
            return token == MARK || refuse(MISPLACED);
        }

        private boolean takeToken() {
            while (next < length && tape[next] == ' ') {
                next++;
            }
            start = next;
            if (next >= length) {
                token = TEXT_END;
                return true;
            }
            if (tape[next] == ';') {
                next++;
                token = MARK;
                return true;
            }
            if (isLetter(tape[next])) {
                while (next < length && isLetter(tape[next])) {
                    next++;
                }
                token = NAME;
                return true;
            }
            return takeFigures();
        }

        private boolean takeFigures() {
            number = 0;
            while (next < length && isFigure(tape[next])) {
                // More figures are a FAULT, so the number need not be right there.
                if (next - start < MOST_FIGURES) {
                    number = number * 10 + tape[next] - '0';
                }
                next++;
            }
            token = NUMBER;
            return within(next - start, 1, MOST_FIGURES) || refuse(NO_TOKEN);
        }

        private int kindNamed() {
            if (isNamed("load")) {
                return LOAD;
            }
            if (isNamed("store")) {
                return STORE;
            }
            if (isNamed("add")) {
                return ADD;
            }
            return isNamed("mul") ? MUL : -1;
        }

        private boolean isNamed(String word) {
            if (token != NAME || next - start != word.length()) {
                return false;
            }
            for (int k = 0; k < word.length(); k++) {
                if (tape[start + k] != word.charAt(k)) {
                    return false;
                }
            }
            return true;
        }

        private static boolean isLetter(int c) {
            return c >= 'a' && c <= 'z';
        }

        private static boolean isFigure(int c) {
            return c >= '0' && c <= '9';
        }

        private boolean refuse(int sort) {
            faultSort = sort;
            faultPlace = start;
            return false;
        }
    }

    /** Times a PROGRAM: a line waits only for lines ahead of it, so one pass in their order is enough. */
    private static final class Timer {
        final int[] goes = new int[MOST_LINES * MOST_ELEMENTS];
        final int[] makesIn = new int[MOST_LINES];
        final int[] unitFree = new int[UNITS];
        final int[] ready = new int[MOST_BANKS];
        int latest;

        void run(Layout on, int rest, Program of, int l, boolean linked) {
            Arrays.fill(unitFree, 0);
            Arrays.fill(ready, 0);
            latest = 0;
            for (int k = 0; k < of.size; k++) {
                makesIn[k] = delayOf(of.kind[k], rest);
                runLine(on, of, k, l, linked);
                latest = Math.max(latest, thereAt(k, l - 1));
            }
        }

        private void runLine(Layout on, Program of, int k, int l, boolean linked) {
            int unit = Program.unitOf(of.kind[k]);
            for (int e = 0; e < l; e++) {
                int source = linked ? e : l - 1;
                int beat = Math.max(unitFree[unit],
                        Math.max(sourceAt(of.sourceA[k], source), sourceAt(of.sourceB[k], source)));
                if (unit == PORT) {
                    int v = on.bankOfAddress(of.second[k] + e * of.third[k]);
                    beat = Math.max(beat, ready[v]);
                    ready[v] = beat + makesIn[k];
                }
                goes[k * MOST_ELEMENTS + e] = beat;
                unitFree[unit] = beat + 1;
            }
        }

        private static int delayOf(int kind, int rest) {
            if (kind == ADD) {
                return 3;
            }
            return kind == MUL ? 5 : rest;
        }

        private int sourceAt(int line, int e) {
            return line < 0 ? 0 : thereAt(line, e);
        }

        int goesAt(int k, int e) {
            return goes[k * MOST_ELEMENTS + e];
        }

        int thereAt(int k, int e) {
            return goesAt(k, e) + makesIn[k];
        }
    }

    /** Its CELLS hold numbers as narrow as its lane; only the first ones, as many as its size, are its own. */
    private static final class Sheet {
        static final int BYTES = 0, SHORTS = 1;

        final int[] cells = new int[MOST_SHEET_CELLS];
        int size = -1;
        int lane = BYTES;

        boolean isNothing() {
            return size < 0;
        }

        boolean has(int i) {
            return within(i, 0, size - 1);
        }

        void renew(int newLane, int newSize) {
            lane = newLane;
            size = newSize;
            Arrays.fill(cells, 0);
        }

        void put(int i, int v) {
            if (lane == BYTES) {
                cells[i] = (byte) v;
            } else {
                cells[i] = lane == SHORTS ? (short) v : v;
            }
        }

        /** What the first CELL that can not be read answers; 0: all can. */
        int refusal(Layout to, int f) {
            for (int c = 0; c < to.cellCount(); c++) {
                // f + c may wrap round only behind a CELL that was refused already.
                if (!has(f + c)) {
                    return -10 - INDEX_FAULT;
                }
                if (!within(cells[f + c], 0, to.m - 1)) {
                    return -1000 - c;
                }
            }
            return 0;
        }

        int copyTo(Layout to, int f) {
            int others = 0;
            for (int c = 0; c < to.cellCount() && has(f + c); c++) {
                int at = spot(c / to.w, c % to.w);
                others += to.told[at] != cells[f + c] ? 1 : 0;
                to.told[at] = cells[f + c];
            }
            return others;
        }
    }
}
