import java.util.ArrayDeque;
import java.util.ArrayList;
import java.util.Arrays;
import java.util.Deque;
import java.util.HashSet;
import java.util.List;
import java.util.Set;
import java.util.regex.Matcher;
import java.util.regex.Pattern;

/**
 * The document's words once more, done in the most literal and slowest way, to compare PairSorts with:
 * all sequences, all permutations, all subsets, all corners are gone through.
 */
final class Model {
    private static final int NONE = -1, BAD = -2, NO = -3, FULL = -4;

    private int[][] t = ones(4);
    private final Deque<int[][]> kept = new ArrayDeque<>();
    private String text = "";
    private final int[] errors = new int[3];

    // worked out once for each table
    private int[][] seenTable;
    private int[] verdict;
    private List<int[]> rows;
    private List<Integer> fusions;

    private static int[][] ones(int n) {
        int[][] t = new int[n][n];
        for (int x = 0; x < n; x++) {
            for (int y = 0; y < n; y++) {
                t[x][y] = x == y ? 0 : 1;
            }
        }
        return t;
    }

    private static int[][] copy(int[][] t) {
        int[][] c = new int[t.length][];
        for (int i = 0; i < t.length; i++) {
            c[i] = t[i].clone();
        }
        return c;
    }

    private int fail(int error) {
        errors[-2 - error]++;
        return error;
    }

    private int keep(int[][] before, int answer) {
        if (answer < 0) {
            return fail(answer);
        }
        kept.addLast(before);
        if (kept.size() > 6) {
            kept.removeFirst();
        }
        return answer;
    }

    private static int greatest(int[][] t) {
        int l = 0;
        for (int[] row : t) {
            for (int v : row) {
                l = Math.max(l, v);
            }
        }
        return l;
    }

    private int l() {
        return greatest(t);
    }

    // ---- the table

    int points(int n) {
        int[][] before = t;
        return keep(before, doPoints(n));
    }

    int pair(int x, int y, int v) {
        int[][] before = t;
        return keep(before, doPair(x, y, v));
    }

    int makes(int kind, int a, int b) {
        int[][] before = t;
        return keep(before, doMakes(kind, a, b));
    }

    int renames(int i, int j) {
        int[][] before = t;
        return keep(before, doRenames(i, j));
    }

    int drops(int x) {
        int[][] before = t;
        return keep(before, doDrops(x));
    }

    int fuses(int k) {
        int[][] before = t;
        return keep(before, doFuses(k));
    }

    private int doPoints(int n) {
        if (n < 1 || n > 13) {
            return BAD;
        }
        int had = t.length;
        t = ones(n);
        return had;
    }

    private boolean point(int x) {
        return 0 <= x && x < t.length;
    }

    private int doPair(int x, int y, int v) {
        if (!point(x) || !point(y) || x == y || v < 1 || v > 5) {
            return BAD;
        }
        int had = t[x][y];
        t = copy(t);
        t[x][y] = v;
        t[y][x] = v;
        return had;
    }

    private static String inBase(int x, int a, int b) {
        StringBuilder s = new StringBuilder(Integer.toString(x, b));
        while (s.length() < a) {
            s.insert(0, '0');
        }
        return s.toString();
    }

    private int doMakes(int kind, int a, int b) {
        List<Object> points = new ArrayList<>();
        if (kind == 0 && a >= 2 && a <= 11 && b == 0) {
            for (int x = 0; x < a; x++) {
                points.add(x);
            }
        } else if (kind == 1 && a >= 1 && a <= 3 && b >= 2 && b <= 13) {
            for (int x = 0; x < Math.round(Math.pow(b, a)); x++) {
                points.add(inBase(x, a, b));
            }
        } else if (kind == 2 && b >= 2 && b <= 13 && a >= 1 && a <= b - 1) {
            for (int mask = 0; mask < 1 << b; mask++) {
                if (Integer.bitCount(mask) == a) {
                    points.add(mask);
                }
            }
        } else if (kind == 3 && a >= 1 && a <= 13 && b >= 1 && b <= 13
                || kind == 4 && a >= 2 && a <= 6 && b >= 2 && b <= 6) {
            for (int x = 0; x < a * b; x++) {
                points.add(x);
            }
        } else if (kind == 5 && List.of(3, 5, 7, 11, 13).contains(a) && b >= 1 && b <= 5 && (a - 1) / 2 % b == 0) {
            for (int x = 0; x < a; x++) {
                points.add(x);
            }
        }
        int n = points.size();
        if (n == 0 || n > 13) {
            return BAD;
        }
        int[][] made = new int[n][n];
        for (int x = 0; x < n; x++) {
            for (int y = 0; y < n; y++) {
                if (x != y) {
                    made[x][y] = relation(kind, a, b, points.get(x), points.get(y));
                }
            }
        }
        t = made;
        return n;
    }

    private static int relation(int kind, int a, int b, Object p, Object q) {
        if (kind == 1) {
            int d = 0;
            for (int i = 0; i < a; i++) {
                d += ((String) p).charAt(i) != ((String) q).charAt(i) ? 1 : 0;
            }
            return d;
        }
        int x = (Integer) p;
        int y = (Integer) q;
        if (kind == 0) {
            return Math.min(Math.floorMod(x - y, a), Math.floorMod(y - x, a));
        }
        if (kind == 2) {
            return Integer.bitCount(x & ~y);
        }
        if (kind == 3) {
            return b == 1 ? 1 : x / b == y / b ? 1 : 2;
        }
        if (kind == 4) {
            return x / b == y / b ? 1 : x % b == y % b ? 2 : 3;
        }
        for (int g = 2;; g++) {
            Set<Integer> powers = new HashSet<>();
            int power = 1;
            int exponent = -1;
            for (int e = 0; e <= a - 2; e++) {
                powers.add(power);
                if (power == Math.floorMod(x - y, a)) {
                    exponent = e;
                }
                power = power * g % a;
            }
            if (powers.size() == a - 1) {
                return exponent % b + 1;
            }
        }
    }

    private int doRenames(int i, int j) {
        if (i < 1 || i > 5 || j < 1 || j > 5 || i == j) {
            return BAD;
        }
        int[][] c = copy(t);
        int changed = 0;
        for (int x = 0; x < t.length; x++) {
            for (int y = 0; y < t.length; y++) {
                c[x][y] = t[x][y] == i ? j : t[x][y] == j ? i : t[x][y];
                changed += x < y && c[x][y] != t[x][y] ? 1 : 0;
            }
        }
        t = c;
        return changed;
    }

    private int doDrops(int point) {
        if (!point(point)) {
            return BAD;
        }
        if (t.length == 1) {
            return NO;
        }
        int n = t.length - 1;
        int[][] c = new int[n][n];
        for (int x = 0; x < n; x++) {
            for (int y = 0; y < n; y++) {
                c[x][y] = t[x + (x >= point ? 1 : 0)][y + (y >= point ? 1 : 0)];
            }
        }
        t = c;
        return n;
    }

    private static int[][] fused(int[][] t, int fusion) {
        String digits = Integer.toString(fusion);
        int[][] c = copy(t);
        for (int[] row : c) {
            for (int y = 0; y < row.length; y++) {
                row[y] = row[y] == 0 ? 0 : digits.charAt(row[y] - 1) - '0';
            }
        }
        return c;
    }

    private int doFuses(int k) {
        if (k < 0) {
            return BAD;
        }
        if (k >= goodFusions().size()) {
            return NO;
        }
        t = fused(t, goodFusions().get(k));
        return l();
    }

    int sort(int x, int y) {
        return point(x) && point(y) ? t[x][y] : fail(BAD);
    }

    // ---- schemes

    private static int pathNumber(int[][] t, int x, int y, int i, int j) {
        int count = 0;
        for (int z = 0; z < t.length; z++) {
            count += t[x][z] == i && t[z][y] == j ? 1 : 0;
        }
        return count;
    }

    private static int[] judge(int[][] t) {
        int l = greatest(t);
        Set<Integer> occurring = new HashSet<>();
        for (int[] row : t) {
            for (int v : row) {
                occurring.add(v);
            }
        }
        for (int i = 0; i < l; i++) {
            if (!occurring.contains(i)) {
                return new int[] {1, i, NONE, NONE, NONE, NONE};
            }
        }
        for (int i = 0; i <= l; i++) {
            for (int j = 0; j <= l; j++) {
                for (int k = 0; k <= l; k++) {
                    int first = NONE;
                    for (int x = 0; x < t.length; x++) {
                        for (int y = 0; y < t.length; y++) {
                            if (t[x][y] != k) {
                                continue;
                            }
                            if (first == NONE) {
                                first = 16 * x + y;
                            } else if (pathNumber(t, x, y, i, j) != pathNumber(t, first / 16, first % 16, i, j)) {
                                return new int[] {2, i, j, k, first, 16 * x + y};
                            }
                        }
                    }
                }
            }
        }
        return new int[] {0, NONE, NONE, NONE, NONE, NONE};
    }

    private void look() {
        if (seenTable != t) {
            seenTable = t;
            verdict = judge(t);
            rows = null;
            fusions = null;
        }
    }

    private boolean scheme() {
        look();
        return verdict[0] == 0;
    }

    int verdict(int what) {
        if (what < 0 || what > 5) {
            return fail(BAD);
        }
        look();
        return verdict[what];
    }

    private boolean relation(int i) {
        return 0 <= i && i <= l();
    }

    private int valency(int i) {
        int count = 0;
        for (int v : t[0]) {
            count += v == i ? 1 : 0;
        }
        return count;
    }

    int valence(int i) {
        return relation(i) ? valency(i) : fail(BAD);
    }

    private int intersection(int i, int j, int k) {
        for (int x = 0; x < t.length; x++) {
            for (int y = 0; y < t.length; y++) {
                if (t[x][y] == k) {
                    return pathNumber(t, x, y, i, j);
                }
            }
        }
        throw new IllegalStateException();
    }

    int paths(int i, int j, int k) {
        if (!relation(i) || !relation(j) || !relation(k)) {
            return fail(BAD);
        }
        return scheme() ? intersection(i, j, k) : fail(NO);
    }

    // ---- rows

    private List<int[]> theRows() {
        look();
        if (rows != null) {
            return rows;
        }
        int l = l();
        int[][][] p = new int[l + 1][l + 1][l + 1];
        for (int i = 0; i <= l; i++) {
            for (int j = 0; j <= l; j++) {
                for (int k = 0; k <= l; k++) {
                    p[i][j][k] = intersection(i, j, k);
                }
            }
        }
        rows = new ArrayList<>();
        int[] v = new int[l + 1];
        v[0] = 1;
        everyRow(v, 1, p);
        rows.sort((u, w) -> {
            for (int i = 0; i < u.length; i++) {
                if (u[i] != w[i]) {
                    return w[i] - u[i];
                }
            }
            return 0;
        });
        return rows;
    }

    private void everyRow(int[] v, int i, int[][][] p) {
        if (i == v.length) {
            for (int a = 0; a < v.length; a++) {
                for (int b = 0; b < v.length; b++) {
                    int sum = 0;
                    for (int k = 0; k < v.length; k++) {
                        sum += p[a][b][k] * v[k];
                    }
                    if (sum != v[a] * v[b]) {
                        return;
                    }
                }
            }
            rows.add(v.clone());
            return;
        }
        for (int value = -valency(i); value <= valency(i); value++) {
            v[i] = value;
            everyRow(v, i + 1, p);
        }
    }

    private boolean integral() {
        return scheme() && theRows().size() == l() + 1;
    }

    private boolean rowThere(int r) {
        return scheme() && r < theRows().size();
    }

    private Fraction multiplicity(int r) {
        Fraction sum = Fraction.ZERO;
        int[] v = theRows().get(r);
        for (int i = 0; i < v.length; i++) {
            sum = sum.plus(Fraction.of((long) v[i] * v[i], valency(i)));
        }
        Fraction m = Fraction.of(t.length, 1).over(sum);
        if (!m.isInteger()) {
            throw new IllegalStateException("a multiplicity that is no integer");
        }
        return m;
    }

    private Fraction dual(int i, int r) {
        return multiplicity(r).times(Fraction.of(theRows().get(r)[i], valency(i)));
    }

    private Fraction krein(int r, int s, int u) {
        Fraction sum = Fraction.ZERO;
        for (int i = 0; i <= l(); i++) {
            long product = (long) theRows().get(r)[i] * theRows().get(s)[i] * theRows().get(u)[i];
            sum = sum.plus(Fraction.of(product, (long) valency(i) * valency(i)));
        }
        return multiplicity(r).times(multiplicity(s)).over(Fraction.of(t.length, 1)).times(sum);
    }

    int rows() {
        return scheme() ? theRows().size() : fail(NO);
    }

    int row(int r, int i) {
        if (r < 0 || !relation(i)) {
            return fail(BAD);
        }
        return rowThere(r) ? 100 + theRows().get(r)[i] : fail(NO);
    }

    int times(int r) {
        if (r < 0) {
            return fail(BAD);
        }
        return rowThere(r) ? (int) multiplicity(r).half(0) : fail(NO);
    }

    long back(int i, int r, int what) {
        if (!relation(i) || r < 0 || what < 0 || what > 1) {
            fail(BAD);
            return -100000;
        }
        if (!rowThere(r)) {
            fail(NO);
            return -100001;
        }
        return dual(i, r).half(what);
    }

    long cross(int r, int s, int u, int what) {
        if (r < 0 || s < 0 || u < 0 || what < 0 || what > 1) {
            return fail(BAD);
        }
        if (!integral() || r > l() || s > l() || u > l()) {
            return fail(NO);
        }
        return krein(r, s, u).half(what);
    }

    private void permutations(String prefix, int l, List<String> all) {
        if (prefix.length() == l) {
            all.add(prefix);
        }
        for (int c = 1; c <= l; c++) {
            if (prefix.indexOf('0' + c) < 0) {
                permutations(prefix + c, l, all);
            }
        }
    }

    private List<Integer> theOrders(int which) {
        int l = l();
        int[][][] sign = new int[l + 1][l + 1][l + 1];
        for (int i = 0; i <= l; i++) {
            for (int j = 0; j <= l; j++) {
                for (int k = 0; k <= l; k++) {
                    sign[i][j][k] = which == 0 ? intersection(i, j, k) : krein(i, j, k).sign();
                }
            }
        }
        List<String> all = new ArrayList<>();
        permutations("", l, all);
        List<Integer> good = new ArrayList<>();
        for (String one : all) {
            String o = "0" + one;
            boolean right = true;
            for (int a = 0; a <= l && l > 0; a++) {
                for (int b = 0; b <= l; b++) {
                    int s = sign[o.charAt(1) - '0'][o.charAt(a) - '0'][o.charAt(b) - '0'];
                    right &= Math.abs(a - b) < 2 || s == 0;
                    right &= Math.abs(a - b) != 1 || s > 0;
                }
            }
            if (right) {
                good.add(Integer.parseInt(o));
            }
        }
        good.sort(null);
        return good;
    }

    private static int listed(List<Integer> list, int k) {
        return k == NONE ? list.size() : k < list.size() ? list.get(k) : -5;
    }

    int orders(int which, int k) {
        if (which < 0 || which > 1 || k < -1) {
            return fail(BAD);
        }
        if (!scheme() || which == 1 && !integral()) {
            return fail(NO);
        }
        return listed(theOrders(which), k);
    }

    // ---- fusions and codes

    private List<Integer> goodFusions() {
        look();
        if (fusions != null) {
            return fusions;
        }
        fusions = new ArrayList<>();
        int l = l();
        for (int number = 1; number < Math.round(Math.pow(10, l)) && l > 0; number++) {
            String digits = Integer.toString(number);
            boolean fusion = digits.length() == l && digits.charAt(0) == '1';
            char most = '1';
            for (int i = 1; i < digits.length() && fusion; i++) {
                fusion = digits.charAt(i) >= '1' && digits.charAt(i) <= most + 1;
                most = (char) Math.max(most, digits.charAt(i));
            }
            if (fusion && judge(fused(t, number))[0] == 0) {
                fusions.add(number);
            }
        }
        return fusions;
    }

    int fusions(int k) {
        return k < -1 ? fail(BAD) : listed(goodFusions(), k);
    }

    private boolean code(int code) {
        return code > 0 && code < 1 << t.length;
    }

    private Fraction distribution(int code, int i) {
        int pairs = 0;
        for (int x = 0; x < t.length; x++) {
            for (int y = 0; y < t.length; y++) {
                pairs += (code & 1 << x) != 0 && (code & 1 << y) != 0 && t[x][y] == i ? 1 : 0;
            }
        }
        return Fraction.of(pairs, Integer.bitCount(code));
    }

    int spread(int code, int i, int what) {
        if (!code(code) || !relation(i) || what < 0 || what > 1) {
            return fail(BAD);
        }
        return (int) distribution(code, i).half(what);
    }

    long shadow(int code, int r, int what) {
        if (!code(code) || r < 0 || what < 0 || what > 1) {
            return fail(BAD);
        }
        if (!integral() || r > l()) {
            return fail(NO);
        }
        Fraction sum = Fraction.ZERO;
        for (int i = 0; i <= l(); i++) {
            sum = sum.plus(distribution(code, i).times(dual(i, r)));
        }
        return sum.half(what);
    }

    private boolean allowed(int allowed) {
        for (int bit = 0; bit < 32; bit++) {
            if ((allowed & 1 << bit) != 0 && (bit == 0 || bit > l())) {
                return false;
            }
        }
        return true;
    }

    long bound(int allowed, int what) {
        if (!allowed(allowed) || what < 0 || what > 1) {
            return fail(BAD);
        }
        if (!integral()) {
            return fail(NO);
        }
        List<Integer> free = new ArrayList<>();
        for (int i = 1; i <= l(); i++) {
            if ((allowed & 1 << i) != 0) {
                free.add(i);
            }
        }
        // each condition: a constant and the coefficients of the free numbers; their sum is at least 0
        List<Fraction[]> conditions = new ArrayList<>();
        for (int r = 0; r <= l(); r++) {
            Fraction[] c = new Fraction[free.size() + 1];
            c[0] = dual(0, r);
            for (int f = 0; f < free.size(); f++) {
                c[f + 1] = dual(free.get(f), r);
            }
            conditions.add(c);
        }
        for (int f = 0; f < free.size(); f++) {
            Fraction[] c = new Fraction[free.size() + 1];
            Arrays.fill(c, Fraction.ZERO);
            c[f + 1] = Fraction.ONE;
            conditions.add(c);
        }
        Fraction best = null;
        for (int choice = 0; choice < 1 << conditions.size(); choice++) {
            if (Integer.bitCount(choice) == free.size()) {
                Fraction value = corner(conditions, choice, free.size());
                if (value != null && (best == null || value.compareTo(best) > 0)) {
                    best = value;
                }
            }
        }
        return best.half(what);
    }

    /** The sum at the corner where the chosen conditions are 0; null if there is none, or it is outside. */
    private static Fraction corner(List<Fraction[]> conditions, int choice, int n) {
        List<Fraction[]> m = new ArrayList<>();
        for (int i = 0; i < conditions.size(); i++) {
            if ((choice & 1 << i) != 0) {
                m.add(conditions.get(i).clone());
            }
        }
        for (int c = 1; c <= n; c++) {
            int pivot = -1;
            for (int r = c - 1; r < n; r++) {
                if (m.get(r)[c].sign() != 0) {
                    pivot = r;
                }
            }
            if (pivot < 0) {
                return null;
            }
            Fraction[] row = m.remove(pivot);
            m.add(c - 1, row);
            Fraction lead = row[c];
            for (int k = 0; k <= n; k++) {
                row[k] = row[k].over(lead);
            }
            for (int r = 0; r < n; r++) {
                if (r != c - 1) {
                    Fraction f = m.get(r)[c];
                    for (int k = 0; k <= n; k++) {
                        m.get(r)[k] = m.get(r)[k].minus(f.times(row[k]));
                    }
                }
            }
        }
        Fraction[] a = new Fraction[n + 1];
        a[0] = Fraction.ONE;
        Fraction sum = Fraction.ONE;
        for (int c = 1; c <= n; c++) {
            a[c] = Fraction.ZERO.minus(m.get(c - 1)[0]);
            sum = sum.plus(a[c]);
        }
        for (Fraction[] condition : conditions) {
            Fraction value = Fraction.ZERO;
            for (int c = 0; c <= n; c++) {
                value = value.plus(condition[c].times(a[c]));
            }
            if (value.sign() < 0) {
                return null;
            }
        }
        return sum;
    }

    int most(int allowed, int what) {
        if (!allowed(allowed) || what < 0 || what > 1) {
            return fail(BAD);
        }
        int best = 0;
        for (int code = 1; code < 1 << t.length; code++) {
            boolean right = Integer.bitCount(code) > Integer.bitCount(best);
            for (int x = 0; x < t.length && right; x++) {
                for (int y = 0; y < x && right; y++) {
                    boolean both = (code & 1 << x) != 0 && (code & 1 << y) != 0;
                    right = !both || (allowed & 1 << t[x][y]) != 0;
                }
            }
            if (right) {
                best = code;
            }
        }
        return what == 0 ? Integer.bitCount(best) : best;
    }

    // ---- strongly regular graphs

    int sieve(int n, int k, int l, int m) {
        if (n < 3 || n > 60 || k < 1 || k > n - 2 || l < 0 || l > k - 1 || m < 0 || m > k) {
            return fail(BAD);
        }
        return sifted(n, k, l, m);
    }

    private static int sifted(int n, int k, int l, int m) {
        if (k * (k - l - 1) != (n - k - 1) * m) {
            return 1;
        }
        int d = (l - m) * (l - m) + 4 * (k - m);
        int w = 2 * k + (n - 1) * (l - m);
        int s = (int) Math.round(Math.sqrt(d));
        if (s * s != d) {
            return w != 0 ? 2 : 0;
        }
        Fraction r = Fraction.of(l - m + s, 2);
        Fraction u = Fraction.of(l - m - s, 2);
        Fraction f = Fraction.of(n - 1, 1).minus(Fraction.of(w, s)).times(Fraction.of(1, 2));
        Fraction g = Fraction.of(n - 1, 1).minus(f);
        if (!f.isInteger() || f.sign() < 0 || g.sign() < 0) {
            return 3;
        }
        Fraction one = Fraction.ONE;
        Fraction kk = Fraction.of(k, 1);
        Fraction rt2 = Fraction.of(2, 1).times(r).times(u);
        Fraction left = r.plus(one).times(kk.plus(r).plus(rt2));
        Fraction right = kk.plus(r).times(u.plus(one)).times(u.plus(one));
        Fraction left2 = u.plus(one).times(kk.plus(u).plus(rt2));
        Fraction right2 = kk.plus(u).times(r.plus(one)).times(r.plus(one));
        if (left.compareTo(right) > 0 || left2.compareTo(right2) > 0) {
            return 4;
        }
        long ff = f.half(0);
        long gg = g.half(0);
        if (m != 0 && m != k && (2 * n > ff * (ff + 3) || 2 * n > gg * (gg + 3))) {
            return 5;
        }
        return 0;
    }

    int sieved(int n, int i) {
        if (n < 3 || n > 60 || i < -1) {
            return fail(BAD);
        }
        List<Integer> all = new ArrayList<>();
        for (int k = 1; k <= n - 2; k++) {
            for (int l = 0; l <= k - 1; l++) {
                for (int m = 0; m <= k; m++) {
                    if (sifted(n, k, l, m) == 0) {
                        all.add(10000 * k + 100 * l + m);
                    }
                }
            }
        }
        return listed(all, i);
    }

    // ---- texts and figures

    int type(int c) {
        if (c < 0 || c > 127) {
            return fail(BAD);
        }
        if (text.length() == 100) {
            return fail(FULL);
        }
        text += (char) c;
        return text.length();
    }

    int clear() {
        int had = text.length();
        text = "";
        return had;
    }

    private static final String NUMBER = " *[0-9]{1,2}";
    private static final String COMMAND = "(?:[ndf]" + NUMBER + " *;|r" + NUMBER + " " + NUMBER + " *;|[pm]" + NUMBER
            + " " + NUMBER + " " + NUMBER + " *;)";
    private static final Pattern TEXT = Pattern.compile(" *" + COMMAND + "(?: *" + COMMAND + ")* *");

    private static boolean canStart(String prefix) {
        Matcher m = TEXT.matcher(prefix);
        return m.matches() || m.hitEnd();
    }

    int reads() {
        for (int p = 0; p < text.length(); p++) {
            if (!canStart(text.substring(0, p + 1))) {
                return -10 - p;
            }
        }
        if (!TEXT.matcher(text).matches()) {
            return -10 - text.length();
        }
        int[][] before = t;
        String[] commands = text.trim().split(" *; *");
        for (int k = 0; k < commands.length; k++) {
            char letter = commands[k].charAt(0);
            String[] numbers = commands[k].substring(1).trim().split(" +");
            int[] v = new int[3];
            for (int i = 0; i < numbers.length; i++) {
                v[i] = Integer.parseInt(numbers[i]);
            }
            int answer = switch (letter) {
                case 'n' -> doPoints(v[0]);
                case 'p' -> doPair(v[0], v[1], v[2]);
                case 'm' -> doMakes(v[0], v[1], v[2]);
                case 'r' -> doRenames(v[0], v[1]);
                case 'd' -> doDrops(v[0]);
                default -> doFuses(v[0]);
            };
            if (answer < 0) {
                t = before;
                return -1000 - k;
            }
        }
        return keep(before, commands.length);
    }

    int undo() {
        if (kept.isEmpty()) {
            return fail(NO);
        }
        t = kept.removeLast();
        return kept.size();
    }

    private int figure(int what) {
        int[] figures = {errors[0], errors[1], errors[2], text.length(), t.length, l(), kept.size()};
        return figures[what];
    }

    int told(int what) {
        return what < 0 || what > 6 ? fail(BAD) : figure(what);
    }

    long digest() {
        List<Integer> numbers = new ArrayList<>();
        for (int what = 0; what <= 6; what++) {
            numbers.add(figure(what));
        }
        for (int y = 0; y < t.length; y++) {
            for (int x = 0; x < y; x++) {
                numbers.add(t[x][y]);
            }
        }
        look();
        for (int part : verdict) {
            numbers.add(part);
        }
        if (scheme()) {
            numbers.add(theRows().size());
            for (int r = 0; r < theRows().size(); r++) {
                for (int i = 1; i <= l(); i++) {
                    numbers.add(theRows().get(r)[i]);
                }
                numbers.add((int) multiplicity(r).half(0));
            }
            numbers.add(theOrders(0).size());
        }
        long hash = 2347;
        for (int number : numbers) {
            hash = 31 * hash + number;
        }
        return hash;
    }
}
