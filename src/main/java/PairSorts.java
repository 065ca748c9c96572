/**
 * Symmetric association schemes on at most 13 points. ../shared/DOC.md says what each call does.
 * Everything an object needs is made in its constructor: no call makes an object or an array.
 */
public final class PairSorts {
    public static final int NONE = -1, BAD = -2, NO = -3, FULL = -4;

    private static final int NO_INDEX = -5;
    private static final long BACK_BAD = -100000L, BACK_NO = -100001L;
    private static final int MOST_POINTS = 13;
    private static final int MOST_SORT = 5;
    /** The relations 0 to 5, or the rows 0 to 5: the width of everything that is indexed by them. */
    private static final int WIDTH = 6;

    private final Scheme scheme;
    private final Table table;
    /** The table as the last call left it; the table itself differs only while commands are performed. */
    private final Table settled;
    private final Shelf shelf;
    private final Maker maker;
    private final Characters characters;
    private final Orders stepOrders;
    private final Orders rowOrders;
    private final Fusions goodFusions;
    private final Codes codes;
    private final Simplex simplex;
    private final Text text;
    private final int[] errors;

    public PairSorts() {
        scheme = new Scheme();
        table = scheme.table;
        settled = new Table();
        shelf = new Shelf();
        maker = new Maker();
        characters = new Characters();
        stepOrders = new Orders();
        rowOrders = new Orders();
        goodFusions = new Fusions();
        codes = new Codes();
        simplex = new Simplex();
        text = new Text();
        errors = new int[3];
    }

    // ---- the table

    public int points(int n) {
        return settle(perform('n', n, 0, 0));
    }

    public int pair(int x, int y, int v) {
        return settle(perform('p', x, y, v));
    }

    public int makes(int kind, int a, int b) {
        return settle(perform('m', kind, a, b));
    }

    public int renames(int i, int j) {
        return settle(perform('r', i, j, 0));
    }

    public int drops(int x) {
        return settle(perform('d', x, 0, 0));
    }

    public int fuses(int k) {
        return settle(perform('f', k, 0, 0));
    }

    public int sort(int x, int y) {
        if (!table.has(x) || !table.has(y)) {
            return fail(BAD);
        }
        return table.cell(x, y);
    }

    // ---- schemes

    public int verdict(int what) {
        if (what < 0 || what > 5) {
            return fail(BAD);
        }
        return scheme.part(what);
    }

    public int valence(int i) {
        if (!isSort(i)) {
            return fail(BAD);
        }
        return table.degree(i);
    }

    public int paths(int i, int j, int k) {
        if (!isSort(i) || !isSort(j) || !isSort(k)) {
            return fail(BAD);
        }
        if (!scheme.holds()) {
            return fail(NO);
        }
        return scheme.number(i, j, k);
    }

    // ---- rows

    public int rows() {
        if (!scheme.holds()) {
            return fail(NO);
        }
        return foundRows().count;
    }

    public int row(int r, int i) {
        if (r < 0 || !isSort(i)) {
            return fail(BAD);
        }
        if (!hasRow(r)) {
            return fail(NO);
        }
        return 100 + foundRows().value(r, i);
    }

    public int times(int r) {
        if (r < 0) {
            return fail(BAD);
        }
        if (!hasRow(r)) {
            return fail(NO);
        }
        return foundRows().multiplicity(r);
    }

    public long back(int i, int r, int what) {
        if (!isSort(i) || r < 0 || !isHalf(what)) {
            fail(BAD);
            return BACK_BAD;
        }
        if (!hasRow(r)) {
            fail(NO);
            return BACK_NO;
        }
        Characters found = foundRows();
        return fraction((long) found.multiplicity(r) * found.value(r, i), found.valency(i), what);
    }

    public long cross(int r, int s, int t, int what) {
        if (r < 0 || s < 0 || t < 0 || !isHalf(what)) {
            return fail(BAD);
        }
        if (!isIntegral() || !hasRow(r) || !hasRow(s) || !hasRow(t)) {
            return fail(NO);
        }
        Characters found = foundRows();
        long top = (long) found.multiplicity(r) * found.multiplicity(s) * found.kreinSum(r, s, t);
        return fraction(top, table.size * found.product * found.product, what);
    }

    public int orders(int which, int k) {
        if (which < 0 || which > 1 || k < NONE) {
            return fail(BAD);
        }
        if (which == 0 ? !scheme.holds() : !isIntegral()) {
            return fail(NO);
        }
        Orders list = which == 0 ? foundStepOrders() : foundRowOrders();
        return entry(list.found, list.count, k);
    }

    // ---- fusions and codes

    public int fusions(int k) {
        if (k < NONE) {
            return fail(BAD);
        }
        goodFusions.find(table);
        return entry(goodFusions.found, goodFusions.count, k);
    }

    public int spread(int code, int i, int what) {
        if (!isCode(code) || !isSort(i) || !isHalf(what)) {
            return fail(BAD);
        }
        codes.count(table, code);
        return (int) fraction(codes.pairs(i), Integer.bitCount(code), what);
    }

    public long shadow(int code, int r, int what) {
        if (!isCode(code) || r < 0 || !isHalf(what)) {
            return fail(BAD);
        }
        if (!isIntegral() || !hasRow(r)) {
            return fail(NO);
        }
        Characters found = foundRows();
        codes.count(table, code);
        long sum = 0;
        for (int i = 0; i <= found.greatest; i++) {
            sum += (long) codes.pairs(i) * found.value(r, i) * found.share(i);
        }
        return fraction(found.multiplicity(r) * sum, Integer.bitCount(code) * found.product, what);
    }

    public long bound(int allowed, int what) {
        if (!isAllowed(allowed) || !isHalf(what)) {
            return fail(BAD);
        }
        if (!isIntegral()) {
            return fail(NO);
        }
        simplex.solve(foundRows(), allowed);
        return fraction(simplex.top(), simplex.bottom, what);
    }

    public int most(int allowed, int what) {
        if (!isAllowed(allowed) || !isHalf(what)) {
            return fail(BAD);
        }
        int code = codes.largest(table, allowed);
        return what == 0 ? Integer.bitCount(code) : code;
    }

    // ---- strongly regular graphs

    public int sieve(int n, int k, int l, int m) {
        if (n < 3 || n > 60 || k < 1 || k > n - 2 || l < 0 || l >= k || m < 0 || m > k) {
            return fail(BAD);
        }
        return Sieve.result(n, k, l, m);
    }

    public int sieved(int n, int i) {
        if (n < 3 || n > 60 || i < NONE) {
            return fail(BAD);
        }
        return Sieve.entry(n, i);
    }

    // ---- texts and figures

    public int type(int c) {
        if (c < 0 || c > 127) {
            return fail(BAD);
        }
        if (!text.append(c)) {
            return fail(FULL);
        }
        return text.size;
    }

    public int clear() {
        int had = text.size;
        text.size = 0;
        return had;
    }

    public int reads() {
        int fault = text.fault();
        if (fault != NONE) {
            return -10 - fault;
        }
        for (int k = 0; k < text.commands; k++) {
            int answer = perform(text.letter(k), text.number(k, 0), text.number(k, 1), text.number(k, 2));
            if (answer < 0) {
                table.copyFrom(settled);
                forget();
                return -1000 - k;
            }
        }
        return settle(text.commands);
    }

    public int undo() {
        if (shelf.count == 0) {
            return fail(NO);
        }
        shelf.restore(table);
        settled.copyFrom(table);
        forget();
        return shelf.count;
    }

    public int told(int what) {
        if (what < 0 || what > 6) {
            return fail(BAD);
        }
        return figure(what);
    }

    public long digest() {
        long hash = 2347;
        for (int what = 0; what <= 6; what++) {
            hash = 31 * hash + figure(what);
        }
        for (int y = 1; y < table.size; y++) {
            for (int x = 0; x < y; x++) {
                hash = 31 * hash + table.cell(x, y);
            }
        }
        for (int what = 0; what <= 5; what++) {
            hash = 31 * hash + scheme.part(what);
        }
        return scheme.holds() ? withRows(hash) : hash;
    }

    // ---- what the calls share

    private long withRows(long start) {
        Characters found = foundRows();
        long hash = 31 * start + found.count;
        for (int r = 0; r < found.count; r++) {
            for (int i = 1; i <= found.greatest; i++) {
                hash = 31 * hash + found.value(r, i);
            }
            hash = 31 * hash + found.multiplicity(r);
        }
        return 31 * hash + foundStepOrders().count;
    }

    private int figure(int what) {
        switch (what) {
            case 3:
                return text.size;
            case 4:
                return table.size;
            case 5:
                return table.greatest();
            case 6:
                return shelf.count;
            default:
                return what >= 0 && what < errors.length ? errors[what] : NONE;
        }
    }

    private int fail(int error) {
        int place = BAD - error;
        if (place >= 0 && place < errors.length) {
            errors[place]++;
        }
        return error;
    }

    private boolean isSort(int i) {
        return i >= 0 && i <= table.greatest();
    }

    private boolean isCode(int code) {
        return code > 0 && code < 1 << table.size;
    }

    private boolean isAllowed(int allowed) {
        return (allowed & ~((2 << table.greatest()) - 2)) == 0;
    }

    private static boolean isHalf(int what) {
        return what == 0 || what == 1;
    }

    private boolean isIntegral() {
        return scheme.holds() && foundRows().count == scheme.greatest + 1;
    }

    private boolean hasRow(int r) {
        return scheme.holds() && r >= 0 && r < foundRows().count;
    }

    private static int entry(int[] list, int count, int k) {
        if (k == NONE) {
            return count;
        }
        return k >= 0 && k < count && k < list.length ? list[k] : NO_INDEX;
    }

    /** One half of top / bottom in lowest terms; bottom is positive. */
    private static long fraction(long top, long bottom, int what) {
        long a = Math.abs(top);
        long b = bottom;
        for (int step = 0; step < 200 && b != 0; step++) {
            long rest = a % b;
            a = b;
            b = rest;
        }
        if (a == 0) {
            return 0;
        }
        return what == 0 ? top / a : bottom / a;
    }

    // ---- what is worked out once for each table

    private void forget() {
        scheme.forget();
        characters.known = false;
        stepOrders.known = false;
        rowOrders.known = false;
        goodFusions.known = false;
    }

    /** Asked for only if the table is a scheme. */
    private Characters foundRows() {
        if (!characters.known) {
            characters.find(scheme);
        }
        return characters;
    }

    /** Asked for only if the table is a scheme. */
    private Orders foundStepOrders() {
        if (!stepOrders.known) {
            stepOrders.takeNumbers(scheme);
            stepOrders.find(scheme.greatest);
        }
        return stepOrders;
    }

    /** Asked for only if the table is an integral scheme. */
    private Orders foundRowOrders() {
        if (!rowOrders.known) {
            rowOrders.takeKreinSums(foundRows());
            rowOrders.find(scheme.greatest);
        }
        return rowOrders;
    }

    // ---- commands, called or read from the text

    /** Ends a call that has changed the table: counts its error, or keeps the table from before. */
    private int settle(int answer) {
        if (answer < 0) {
            return fail(answer);
        }
        shelf.keep(settled);
        settled.copyFrom(table);
        return answer;
    }

    /** Changes the table, or returns an error and leaves it; neither keeps a table nor counts an error. */
    private int perform(int letter, int a, int b, int c) {
        int answer = BAD;
        switch (letter) {
            case 'n':
                answer = setPoints(a);
                break;
            case 'p':
                answer = setPair(a, b, c);
                break;
            case 'm':
                answer = maker.make(table, a, b, c);
                break;
            case 'r':
                answer = exchange(a, b);
                break;
            case 'd':
                answer = remove(a);
                break;
            case 'f':
                answer = fuse(a);
                break;
            default:
                break;
        }
        if (answer >= 0) {
            forget();
        }
        return answer;
    }

    private int setPoints(int n) {
        if (n < 1 || n > MOST_POINTS) {
            return BAD;
        }
        int had = table.size;
        table.reset(n);
        return had;
    }

    private int setPair(int x, int y, int v) {
        if (!table.has(x) || !table.has(y) || x == y || v < 1 || v > MOST_SORT) {
            return BAD;
        }
        int had = table.cell(x, y);
        table.put(x, y, v);
        return had;
    }

    private int exchange(int i, int j) {
        if (i < 1 || i > MOST_SORT || j < 1 || j > MOST_SORT || i == j) {
            return BAD;
        }
        return table.exchange(i, j);
    }

    private int remove(int x) {
        if (!table.has(x)) {
            return BAD;
        }
        if (table.size == 1) {
            return NO;
        }
        table.remove(x);
        return table.size;
    }

    private int fuse(int k) {
        if (k < 0) {
            return BAD;
        }
        goodFusions.find(table);
        if (k >= goodFusions.count) {
            return NO;
        }
        goodFusions.apply(k, table);
        return table.greatest();
    }

    /**
     * The points and the relation of each two of them. There are always 1 to 13 points, and put() alone
     * sets a cell: so a point and a relation of a table are an index into what is indexed by them.
     */
    private static final class Table {
        int size;
        private final int[] cells = new int[MOST_POINTS * MOST_POINTS];

        Table() {
            reset(4);
        }

        boolean has(int x) {
            return x >= 0 && x < size;
        }

        int cell(int x, int y) {
            boolean inside = x >= 0 && x < MOST_POINTS && y >= 0 && y < MOST_POINTS;
            return inside ? cells[MOST_POINTS * x + y] : 0;
        }

        void put(int x, int y, int v) {
            boolean inside = x >= 0 && x < MOST_POINTS && y >= 0 && y < MOST_POINTS;
            if (inside && v >= 0 && v <= MOST_SORT) {
                cells[MOST_POINTS * x + y] = v;
                cells[MOST_POINTS * y + x] = v;
            }
        }

        void reset(int n) {
            if (n < 1 || n > MOST_POINTS) {
                return;
            }
            size = n;
            for (int y = 0; y < n; y++) {
                for (int x = 0; x < y; x++) {
                    put(x, y, 1);
                }
                put(y, y, 0);
            }
        }

        void copyFrom(Table other) {
            size = other.size;
            System.arraycopy(other.cells, 0, cells, 0, cells.length);
        }

        int greatest() {
            int most = 0;
            for (int y = 1; y < size; y++) {
                for (int x = 0; x < y; x++) {
                    most = Math.max(most, cell(x, y));
                }
            }
            return most;
        }

        int degree(int i) {
            int count = 0;
            for (int y = 0; y < size; y++) {
                if (cell(0, y) == i) {
                    count++;
                }
            }
            return count;
        }

        int exchange(int i, int j) {
            int changed = 0;
            for (int y = 1; y < size; y++) {
                for (int x = 0; x < y; x++) {
                    int v = cell(x, y);
                    if (v == i || v == j) {
                        put(x, y, i + j - v);
                        changed++;
                    }
                }
            }
            return changed;
        }

        void remove(int point) {
            if (size == 1) {
                return;
            }
            size--;
            for (int y = 1; y < size; y++) {
                for (int x = 0; x < y; x++) {
                    // both come from places that are overwritten later or never
                    put(x, y, cell(x < point ? x : x + 1, y < point ? y : y + 1));
                }
            }
        }

        /** Becomes the other table with relation i changed to digits[i]; the other table may be this one. */
        void translate(Table other, int[] digits) {
            size = other.size;
            for (int y = 0; y < size; y++) {
                for (int x = 0; x < y; x++) {
                    int v = other.cell(x, y);
                    put(x, y, v < digits.length ? digits[v] : v);
                }
                put(y, y, 0);
            }
        }
    }

    /** The tables that undo() can restore, the oldest first. */
    private static final class Shelf {
        private static final int PLACES = 6;

        int count;
        private final Table[] kept = new Table[PLACES];

        Shelf() {
            for (int i = 0; i < PLACES; i++) {
                kept[i] = new Table();
            }
        }

        void keep(Table table) {
            if (count == PLACES) {
                Table oldest = kept[0];
                for (int i = 1; i < PLACES; i++) {
                    kept[i - 1] = kept[i];
                }
                kept[PLACES - 1] = oldest;
            } else {
                count++;
            }
            kept[count - 1].copyFrom(table);
        }

        void restore(Table table) {
            if (count > 0) {
                count--;
                table.copyFrom(kept[count]);
            }
        }
    }

    /** Makes the tables of the known kinds. */
    private static final class Maker {
        private static final int RING = 0, WORDS = 1, SETS = 2, HEAPS = 3, GRID = 4, POWERS = 5;

        /** Kind sets: the bit mask of each point; kind powers: the exponent of each difference. */
        private final int[] marks = new int[MOST_POINTS];

        int make(Table table, int kind, int a, int b) {
            int n = sizeOf(kind, a, b);
            if (n < 1 || n > MOST_POINTS) {
                return BAD;
            }
            if (kind == SETS) {
                markSets(a, b);
            } else if (kind == POWERS) {
                markPowers(a);
            }
            table.reset(n);
            for (int y = 1; y < n; y++) {
                for (int x = 0; x < y; x++) {
                    table.put(x, y, relation(kind, n, b, x, y));
                }
            }
            return n;
        }

        private static boolean isWithin(int value, int least, int most) {
            return value >= least && value <= most;
        }

        private static int sizeOf(int kind, int a, int b) {
            switch (kind) {
                case RING:
                    return isWithin(a, 2, 11) && b == 0 ? a : BAD;
                case WORDS:
                    return isWithin(a, 1, 3) && isWithin(b, 2, 13) ? wordCount(a, b) : BAD;
                case SETS:
                    return isWithin(b, 2, 13) && isWithin(a, 1, b - 1) ? setCount(a, b) : BAD;
                case HEAPS:
                    return isWithin(a, 1, 13) && isWithin(b, 1, 13) ? a * b : BAD;
                case GRID:
                    return isWithin(a, 2, 6) && isWithin(b, 2, 6) ? a * b : BAD;
                case POWERS:
                    return isPowers(a, b) ? a : BAD;
                default:
                    return BAD;
            }
        }

        private static int wordCount(int a, int b) {
            int count = 1;
            for (int i = 0; i < a; i++) {
                count *= b;
            }
            return count;
        }

        private static int setCount(int a, int b) {
            int count = 1;
            for (int i = 1; i <= a; i++) {
                count = count * (b - a + i) / i;
            }
            return count;
        }

        private static boolean isPowers(int a, int b) {
            boolean prime = a == 3 || a == 5 || a == 7 || a == 11 || a == 13;
            return prime && isWithin(b, 1, 5) && (a - 1) / 2 % b == 0;
        }

        private void markSets(int a, int b) {
            int count = 0;
            for (int mask = 0; mask < 1 << b; mask++) {
                if (Integer.bitCount(mask) == a && count < marks.length) {
                    marks[count] = mask;
                    count++;
                }
            }
        }

        private void markPowers(int a) {
            boolean primitive = false;
            for (int g = 2; g < a && !primitive; g++) {
                primitive = markPowersOf(g, a);
            }
        }

        /** Marks the exponents of the powers of g; tells whether they are all numbers from 1 to a - 1. */
        private boolean markPowersOf(int g, int a) {
            for (int i = 0; i < a; i++) {
                marks[i] = NONE;
            }
            int power = 1;
            for (int e = 0; e <= a - 2; e++) {
                if (marks[power] != NONE) {
                    return false;
                }
                marks[power] = e;
                power = power * g % a;
            }
            return true;
        }

        /** The relation of x and y, x less than y, in a table of n points; b is as sizeOf() has found it good. */
        private int relation(int kind, int n, int b, int x, int y) {
            if (b < 1) {
                // the ring alone has no b
                return Math.min(y - x, n - y + x);
            }
            switch (kind) {
                case WORDS:
                    return differentDigits(x, y, b);
                case SETS:
                    return Integer.bitCount(marks[x] & ~marks[y]);
                case HEAPS:
                    return b == 1 || x / b == y / b ? 1 : 2;
                case GRID:
                    return x / b == y / b ? 1 : x % b == y % b ? 2 : 3;
                default:
                    // x - y and y - x give the same, as b divides the exponent of -1
                    return marks[y - x] % b + 1;
            }
        }

        private static int differentDigits(int x, int y, int b) {
            int count = 0;
            int left = x;
            int right = y;
            for (int i = 0; i < 3; i++) {
                if (left % b != right % b) {
                    count++;
                }
                left /= b;
                right /= b;
            }
            return count;
        }
    }

    /** A table, whether it is a scheme, its intersection numbers or the first violation. */
    private static final class Scheme {
        final Table table = new Table();
        int greatest;
        private boolean judged;
        private boolean good;
        private boolean explained;
        private final int[] parts = new int[6];
        private final boolean[] seen = new boolean[WIDTH];
        /** For each i the path numbers of a pair for i and all j, four bits for each j: none is above 13. */
        private final int[] walks = new int[WIDTH];
        /** At WIDTH * k + i: walks[i] of the first pair of relation k. */
        private final int[] firstWalks = new int[WIDTH * WIDTH];

        void forget() {
            judged = false;
            explained = false;
        }

        boolean holds() {
            if (!judged) {
                greatest = table.greatest();
                good = missing() == NONE && isUniform();
                judged = true;
            }
            return good;
        }

        /** An intersection number; only if the table is a scheme. */
        int number(int i, int j, int k) {
            boolean inside = i >= 0 && i < WIDTH && j >= 0 && j < WIDTH && k >= 0 && k < WIDTH;
            return inside ? firstWalks[WIDTH * k + i] >> 4 * j & 15 : 0;
        }

        int part(int what) {
            if (!explained) {
                explain();
                explained = true;
            }
            return what >= 0 && what < parts.length ? parts[what] : NONE;
        }

        private int missing() {
            markSeen();
            for (int i = 0; i < greatest; i++) {
                if (!seen[i]) {
                    return i;
                }
            }
            return NONE;
        }

        private void markSeen() {
            for (int i = 0; i < WIDTH; i++) {
                seen[i] = i == 0;
            }
            for (int y = 1; y < table.size; y++) {
                for (int x = 0; x < y; x++) {
                    seen[table.cell(x, y)] = true;
                }
            }
        }

        private boolean isUniform() {
            for (int i = 0; i < WIDTH; i++) {
                seen[i] = false;
            }
            for (int x = 0; x < table.size; x++) {
                for (int y = 0; y < table.size; y++) {
                    countWalks(x, y);
                    if (!fitsFirst(table.cell(x, y))) {
                        return false;
                    }
                }
            }
            return true;
        }

        private void countWalks(int x, int y) {
            for (int i = 0; i < WIDTH; i++) {
                walks[i] = 0;
            }
            for (int z = 0; z < table.size; z++) {
                walks[table.cell(x, z)] += 1 << 4 * table.cell(y, z);
            }
        }

        private boolean fitsFirst(int k) {
            for (int i = 0; i <= greatest; i++) {
                if (!seen[k]) {
                    firstWalks[WIDTH * k + i] = walks[i];
                } else if (firstWalks[WIDTH * k + i] != walks[i]) {
                    return false;
                }
            }
            seen[k] = true;
            return true;
        }

        private void explain() {
            for (int what = 0; what < parts.length; what++) {
                parts[what] = NONE;
            }
            if (holds()) {
                parts[0] = 0;
                return;
            }
            int gap = missing();
            if (gap != NONE) {
                parts[0] = 1;
                parts[1] = gap;
            } else {
                parts[0] = 2;
                findViolation();
            }
        }

        private void findViolation() {
            // i = 0 never differs, and if i, j differ somewhere, then j, i do for the same k:
            // so the first violation has 0 < i <= j
            for (int i = 1; i <= greatest; i++) {
                for (int j = i; j <= greatest; j++) {
                    for (int k = 0; k <= greatest; k++) {
                        if (differs(i, j, k)) {
                            parts[1] = i;
                            parts[2] = j;
                            parts[3] = k;
                            return;
                        }
                    }
                }
            }
        }

        private boolean differs(int i, int j, int k) {
            int first = NONE;
            int due = 0;
            for (int x = 0; x < table.size; x++) {
                for (int y = 0; y < table.size; y++) {
                    if (table.cell(x, y) == k) {
                        int count = pathNumber(x, y, i, j);
                        if (first == NONE) {
                            first = 16 * x + y;
                            due = count;
                        } else if (count != due) {
                            parts[4] = first;
                            parts[5] = 16 * x + y;
                            return true;
                        }
                    }
                }
            }
            return false;
        }

        private int pathNumber(int x, int y, int i, int j) {
            int count = 0;
            for (int z = 0; z < table.size; z++) {
                if (table.cell(x, z) == i && table.cell(z, y) == j) {
                    count++;
                }
            }
            return count;
        }
    }

    /** The rows of a scheme and what is reckoned from them. */
    private static final class Characters {
        boolean known;
        int count;
        int greatest;
        /** The product of all valencies: a common denominator of all sums with valencies below. */
        long product;
        private final int[] values = new int[WIDTH * WIDTH];
        private final int[] multiplicities = new int[WIDTH];
        private final int[] valencies = new int[WIDTH];
        private final int[] attempt = new int[WIDTH];

        int value(int r, int i) {
            return r >= 0 && r < WIDTH && i >= 0 && i < WIDTH ? values[WIDTH * r + i] : 0;
        }

        int multiplicity(int r) {
            return r >= 0 && r < WIDTH ? multiplicities[r] : 0;
        }

        int valency(int i) {
            return i >= 0 && i < WIDTH ? valencies[i] : 0;
        }

        /** The product of all valencies but that of i. */
        long share(int i) {
            int divisor = valency(i);
            return divisor == 0 ? 0 : product / divisor;
        }

        void find(Scheme scheme) {
            known = true;
            count = 0;
            greatest = scheme.greatest;
            product = 1;
            for (int i = 0; i <= greatest; i++) {
                valencies[i] = scheme.number(i, i, 0);
                product *= valencies[i];
                attempt[i] = valencies[i];
            }
            add(scheme.table.size);
            attempt[0] = 1;
            if (greatest > 0) {
                tryValues(scheme, 1, 1);
            }
        }

        /**
         * Tries all values from v(i) on, the greatest ones first, so that the rows come in their order.
         * The sum of all relations is n times an idempotent that each row but the valencies sends to 0:
         * so the sum of such a row is 0, and its last value follows from the others.
         */
        private void tryValues(Scheme scheme, int i, int sum) {
            if (i >= greatest) {
                attempt[greatest] = -sum;
                if (Math.abs(sum) <= valencies[greatest] && isRow(scheme)) {
                    add(scheme.table.size);
                }
                return;
            }
            for (int v = valencies[i]; v >= -valencies[i]; v--) {
                attempt[i] = v;
                tryValues(scheme, i + 1, sum + v);
            }
        }

        private boolean isRow(Scheme scheme) {
            for (int i = 1; i <= greatest; i++) {
                for (int j = i; j <= greatest; j++) {
                    int sum = 0;
                    for (int k = 0; k <= greatest; k++) {
                        sum += scheme.number(i, j, k) * attempt[k];
                    }
                    if (sum != attempt[i] * attempt[j]) {
                        return false;
                    }
                }
            }
            return true;
        }

        private void add(int n) {
            if (count >= WIDTH) {
                return;
            }
            long norm = 0;
            for (int i = 0; i <= greatest; i++) {
                values[WIDTH * count + i] = attempt[i];
                norm += attempt[i] * attempt[i] * share(i);
            }
            multiplicities[count] = norm == 0 ? 0 : (int) (n * product / norm);
            count++;
        }

        /** The sum in the Krein parameter of three rows, times product * product. */
        long kreinSum(int r, int s, int t) {
            long sum = 0;
            for (int i = 0; i <= greatest; i++) {
                sum += value(r, i) * value(s, i) * value(t, i) * share(i) * share(i);
            }
            return sum;
        }
    }

    /** The orders of relations or of rows, found from numbers of three of them. */
    private static final class Orders {
        boolean known;
        int count;
        final int[] found = new int[120];
        private final int[] order = new int[WIDTH];
        private final boolean[] used = new boolean[WIDTH];
        private final long[] numbers = new long[WIDTH * WIDTH * WIDTH];

        private static int place(int a, int b, int c) {
            return WIDTH * (WIDTH * a + b) + c;
        }

        void takeNumbers(Scheme scheme) {
            for (int i = 0; i <= scheme.greatest; i++) {
                for (int j = 0; j <= scheme.greatest; j++) {
                    for (int k = 0; k <= scheme.greatest; k++) {
                        numbers[place(i, j, k)] = scheme.number(i, j, k);
                    }
                }
            }
        }

        /** The sums stand for the Krein parameters: only their signs matter. */
        void takeKreinSums(Characters rows) {
            for (int r = 0; r < rows.count; r++) {
                for (int s = 0; s < rows.count; s++) {
                    for (int t = 0; t < rows.count; t++) {
                        numbers[place(r, s, t)] = rows.kreinSum(r, s, t);
                    }
                }
            }
        }

        void find(int greatest) {
            known = true;
            count = 0;
            for (int i = 0; i < WIDTH; i++) {
                used[i] = false;
                order[i] = 0;
            }
            extend(1, greatest, 0);
        }

        private void extend(int position, int greatest, int digits) {
            if (position > greatest || position >= WIDTH) {
                if (count < found.length) {
                    found[count] = digits;
                    count++;
                }
                return;
            }
            for (int c = 1; c <= greatest; c++) {
                if (!used[c]) {
                    order[position] = c;
                    if (fits(position)) {
                        used[c] = true;
                        extend(position + 1, greatest, 10 * digits + c);
                        used[c] = false;
                    }
                }
            }
        }

        private boolean fits(int b) {
            for (int a = 0; a < b; a++) {
                long up = numbers[place(order[1], order[a], order[b])];
                long down = numbers[place(order[1], order[b], order[a])];
                boolean right = b - a == 1 ? up > 0 && down > 0 : up == 0 && down == 0;
                if (!right) {
                    return false;
                }
            }
            return true;
        }
    }

    /** The good fusions of a table. */
    private static final class Fusions {
        /** The partitions of five relations. */
        private static final int MOST = 52;

        boolean known;
        int count;
        final int[] found = new int[MOST];
        private final int[] digits = new int[WIDTH];
        private final Scheme fused = new Scheme();

        void find(Table table) {
            if (known) {
                return;
            }
            known = true;
            count = 0;
            int greatest = table.greatest();
            start();
            boolean more = greatest > 0;
            for (int turn = 0; turn < MOST && more; turn++) {
                fused.table.translate(table, digits);
                fused.forget();
                if (fused.holds()) {
                    found[count] = asNumber(greatest);
                    count++;
                }
                more = advance(greatest);
            }
        }

        /** Changes the relations of the table as good fusion k does. */
        void apply(int k, Table table) {
            int rest = k >= 0 && k < count ? found[k] : 0;
            for (int i = table.greatest(); i >= 1; i--) {
                digits[i] = rest % 10;
                rest /= 10;
            }
            table.translate(table, digits);
        }

        private void start() {
            digits[0] = 0;
            for (int i = 1; i < WIDTH; i++) {
                digits[i] = 1;
            }
        }

        private int asNumber(int greatest) {
            int number = 0;
            for (int i = 1; i <= greatest; i++) {
                number = 10 * number + digits[i];
            }
            return number;
        }

        /** Goes on to the next fusion, good or not; tells whether there is one. */
        private boolean advance(int greatest) {
            for (int i = greatest; i >= 2; i--) {
                if (digits[i] <= greatestBefore(i)) {
                    digits[i]++;
                    return true;
                }
                digits[i] = 1;
            }
            return false;
        }

        private int greatestBefore(int i) {
            int most = 0;
            for (int j = 1; j < i; j++) {
                most = Math.max(most, digits[j]);
            }
            return most;
        }
    }

    /** Codes: how many of their pairs have each relation, and the largest one. */
    private static final class Codes {
        private final int[] tally = new int[WIDTH];
        private final int[] friends = new int[MOST_POINTS];
        private int best;

        void count(Table table, int code) {
            for (int i = 0; i < WIDTH; i++) {
                tally[i] = 0;
            }
            for (int x = 0; x < table.size; x++) {
                for (int y = 0; y < table.size; y++) {
                    if ((code >> x & code >> y & 1) == 1) {
                        tally[table.cell(x, y)]++;
                    }
                }
            }
        }

        /** The number of pairs of relation i in the code that was counted last. */
        int pairs(int i) {
            return i >= 0 && i < WIDTH ? tally[i] : 0;
        }

        int largest(Table table, int allowed) {
            for (int x = 0; x < table.size; x++) {
                friends[x] = 0;
                for (int y = 0; y < x; y++) {
                    friends[x] |= (allowed >> table.cell(x, y) & 1) << y;
                }
            }
            best = 0;
            extend(table.size - 1, 0, (1 << table.size) - 1);
            return best;
        }

        /**
         * Decides on the points from the last one down, each first left out: so the codes come in
         * increasing order of their bit masks, and only a larger one replaces the best one.
         */
        private void extend(int point, int code, int open) {
            int reach = Integer.bitCount(code) + Integer.bitCount(open);
            if (reach <= Integer.bitCount(best)) {
                return;
            }
            if (point < 0) {
                best = code;
                return;
            }
            int bit = 1 << point;
            extend(point - 1, code, open & ~bit);
            if ((open & bit) != 0) {
                extend(point - 1, code | bit, open & friends[point]);
            }
        }
    }

    /**
     * The linear programming bound. With a(i) = valency(i) * b(i) the condition of each row is that the
     * sum of v(i) * b(i) over i > 0 is at least -1; row 0 always fulfils it. So b = 0 is a first corner.
     * The tableau holds integers over one common denominator, which is the last pivot, as in Bareiss'
     * elimination; each is a determinant of at most six rows of numbers up to 13, so none overflows.
     */
    private static final class Simplex {
        private static final int COLUMNS = 11;
        private static final int MOST_TURNS = 1000;

        long bottom;
        private int height;
        private int last;
        private final long[] cells = new long[WIDTH * COLUMNS];
        private final int[] basis = new int[WIDTH];

        long top() {
            return at(height, last);
        }

        void solve(Characters found, int allowed) {
            start(found, allowed);
            boolean more = true;
            for (int turn = 0; turn < MOST_TURNS && more; turn++) {
                int column = entering();
                int row = column == NONE ? NONE : leaving(column);
                more = row != NONE;
                if (more) {
                    pivot(row, column);
                }
            }
        }

        private long at(int row, int column) {
            return cells[COLUMNS * row + column];
        }

        /** Columns: b(1) to b(L), what is left over in each condition, the right side; last row: the sum. */
        private void start(Characters found, int allowed) {
            height = found.greatest;
            last = 2 * height;
            bottom = 1;
            for (int i = 0; i < cells.length; i++) {
                cells[i] = 0;
            }
            for (int row = 0; row < height; row++) {
                for (int i = 1; i <= height; i++) {
                    cells[COLUMNS * row + i - 1] = (allowed >> i & 1) * -found.value(row + 1, i);
                }
                cells[COLUMNS * row + height + row] = 1;
                cells[COLUMNS * row + last] = 1;
                basis[row] = height + row;
            }
            for (int i = 1; i <= height; i++) {
                cells[COLUMNS * height + i - 1] = (allowed >> i & 1) * -found.valency(i);
            }
            cells[COLUMNS * height + last] = 1;
        }

        /** The first column that betters the sum: Bland's rule, which never goes round in circles. */
        private int entering() {
            for (int column = 0; column < last; column++) {
                if (at(height, column) < 0) {
                    return column;
                }
            }
            return NONE;
        }

        private int leaving(int column) {
            int best = NONE;
            for (int row = 0; row < height; row++) {
                if (at(row, column) > 0 && (best == NONE || isNearer(row, best, column))) {
                    best = row;
                }
            }
            return best;
        }

        private boolean isNearer(int row, int best, int column) {
            long mine = at(row, last) * at(best, column);
            long its = at(best, last) * at(row, column);
            return mine < its || mine == its && basis[row] < basis[best];
        }

        private void pivot(int row, int column) {
            long pivot = at(row, column);
            if (bottom == 0) {
                return;
            }
            for (int other = 0; other <= height; other++) {
                long factor = at(other, column);
                for (int c = 0; c <= last && other != row; c++) {
                    long cell = at(other, c) * pivot - factor * at(row, c);
                    cells[COLUMNS * other + c] = cell / bottom;
                }
            }
            basis[row] = column;
            bottom = pivot;
        }
    }

    /** Parameters of strongly regular graphs. */
    private static final class Sieve {
        static int result(int n, int k, int l, int m) {
            if (k * (k - l - 1) != (n - k - 1) * m) {
                return 1;
            }
            int w = 2 * k + (n - 1) * (l - m);
            int s = root((l - m) * (l - m) + 4 * (k - m));
            if (s == NONE) {
                return w != 0 ? 2 : 0;
            }
            // s is never 0: l is less than k, so l = m and k = m are not both true
            int top = (n - 1) * s - w;
            if (s == 0 || top % (2 * s) != 0) {
                return 3;
            }
            int f = top / (2 * s);
            int g = n - 1 - f;
            if (f < 0 || g < 0) {
                return 3;
            }
            int r = (l - m + s) / 2;
            int t = (l - m - s) / 2;
            if (breaksKrein(k, r, t) || breaksKrein(k, t, r)) {
                return 4;
            }
            boolean few = 2 * n > f * (f + 3) || 2 * n > g * (g + 3);
            return m != 0 && m != k && few ? 5 : 0;
        }

        private static boolean breaksKrein(int k, int r, int t) {
            return (r + 1) * (k + r + 2 * r * t) > (k + r) * (t + 1) * (t + 1);
        }

        private static int root(int d) {
            for (int s = 0; s * s <= d; s++) {
                if (s * s == d) {
                    return s;
                }
            }
            return NONE;
        }

        static int entry(int n, int i) {
            int count = 0;
            for (int k = 1; k <= n - 2; k++) {
                for (int l = 0; l < k; l++) {
                    // any other m is refused by the first test
                    int m = k * (k - l - 1) / (n - k - 1);
                    if (m <= k && result(n, k, l, m) == 0) {
                        if (count == i) {
                            return 10000 * k + 100 * l + m;
                        }
                        count++;
                    }
                }
            }
            return i == NONE ? count : NO_INDEX;
        }
    }

    /** The text, and the commands that are read from it. */
    private static final class Text {
        private static final int MOST_BYTES = 100;
        /** A command has three bytes or more; the last one may not be complete. */
        private static final int MOST_COMMANDS = 34;
        private static final int NUMBERS = 3;

        int size;
        int commands;
        private boolean open;
        private int wanted;
        private int got;
        private int digits;
        private final int[] bytes = new int[MOST_BYTES];
        private final int[] letters = new int[MOST_COMMANDS];
        private final int[] numbers = new int[MOST_COMMANDS * NUMBERS];

        boolean append(int c) {
            if (size >= MOST_BYTES) {
                return false;
            }
            bytes[size] = c;
            size++;
            return true;
        }

        int letter(int command) {
            return command >= 0 && command < commands ? letters[command] : 0;
        }

        int number(int command, int i) {
            boolean inside = command >= 0 && command < commands && i >= 0 && i < NUMBERS;
            return inside ? numbers[NUMBERS * command + i] : 0;
        }

        /** Reads the commands; returns the fault of the text, NONE if it has none. */
        int fault() {
            commands = 0;
            open = false;
            for (int p = 0; p < size; p++) {
                if (!take(bytes[p])) {
                    return p;
                }
            }
            return open || commands == 0 ? size : NONE;
        }

        private boolean take(int c) {
            if (c == ' ') {
                digits = 0;
                return true;
            }
            if (!open) {
                return takeLetter(c);
            }
            if (c >= '0' && c <= '9') {
                return takeDigit(c - '0');
            }
            if (c != ';' || got < wanted) {
                return false;
            }
            open = false;
            commands++;
            return true;
        }

        private boolean takeLetter(int c) {
            wanted = numbersOf(c);
            if (wanted == 0 || commands >= MOST_COMMANDS) {
                return false;
            }
            open = true;
            got = 0;
            digits = 0;
            letters[commands] = c;
            for (int i = 0; i < NUMBERS; i++) {
                numbers[NUMBERS * commands + i] = 0;
            }
            return true;
        }

        private boolean takeDigit(int digit) {
            if (digits == 2 || digits == 0 && got >= wanted) {
                return false;
            }
            if (digits == 0) {
                got++;
            }
            digits++;
            int place = NUMBERS * commands + got - 1;
            numbers[place] = 10 * numbers[place] + digit;
            return true;
        }

        private static int numbersOf(int letter) {
            switch (letter) {
                case 'n':
                case 'd':
                case 'f':
                    return 1;
                case 'r':
                    return 2;
                case 'p':
                case 'm':
                    return 3;
                default:
                    return 0;
            }
        }
    }
}
