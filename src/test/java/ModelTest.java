import java.lang.reflect.Method;
import java.util.ArrayList;
import java.util.Arrays;
import java.util.List;
import java.util.Random;

/** Random runs of at most 512 calls, each answer compared with the one of the literal model; all promises. */
public final class ModelTest {
    private static final String[] QUERIES = {"sort", "verdict", "valence", "paths", "rows", "row", "times", "back",
        "cross", "orders", "fusions", "spread", "shadow", "bound", "most", "told", "digest"};
    private static final String[] CHANGES = {"points", "pair", "makes", "renames", "drops", "fuses", "undo"};
    private static final int[][] GROUPS = {{2, 2}, {2, 3}, {2, 2, 2}, {2, 4}, {3, 3}, {2, 5}, {2, 6}, {3, 4},
        {2, 2, 3}, {2}, {3}, {4}, {5}, {6}, {7}, {8}, {9}, {10}, {11}, {12}, {13}};

    private final Random random;
    private final String name;
    private final PairSorts mine = new PairSorts();
    private final Model model = new Model();
    private final List<String> calls = new ArrayList<>();
    private boolean right = true;

    private ModelTest(long seed, String name) {
        random = new Random(seed);
        this.name = name;
    }

    private static Method method(Class<?> owner, String name) {
        for (Method m : owner.getDeclaredMethods()) {
            if (m.getName().equals(name) && !java.lang.reflect.Modifier.isPrivate(m.getModifiers())) {
                return m;
            }
        }
        throw new IllegalStateException(name);
    }

    private long call(String call, Object... args) {
        calls.add(call + Arrays.toString(args));
        try {
            Method theirs = method(Model.class, call);
            theirs.setAccessible(true);
            long want = ((Number) theirs.invoke(model, args)).longValue();
            long got = ((Number) method(PairSorts.class, call).invoke(mine, args)).longValue();
            if (right) {
                Due.due(name + ", call " + calls.size() + ": " + calls.get(calls.size() - 1), got, want);
            }
            if (got != want && right) {
                right = false;
                System.out.println("  after " + calls);
            }
            return want;
        } catch (ReflectiveOperationException e) {
            throw new IllegalStateException(name + " " + calls, e);
        }
    }

    /** Mostly from 0 to most, at times just outside, rarely far outside. */
    private int near(int least, int most) {
        int dice = random.nextInt(40);
        if (dice == 0) {
            return least - 1;
        }
        if (dice == 1) {
            return most + 1;
        }
        if (dice == 2) {
            int[] far = {Integer.MIN_VALUE, Integer.MAX_VALUE, -100, 100, -2, 31, 32, 64};
            return far[random.nextInt(far.length)];
        }
        return least + random.nextInt(Math.max(1, most - least + 1));
    }

    private void query(String which) {
        int n = mine.told(4);
        int l = mine.told(5);
        model.told(4);
        model.told(5);
        switch (which) {
            case "sort" -> call(which, near(0, n - 1), near(0, n - 1));
            case "verdict" -> call(which, near(0, 5));
            case "valence" -> call(which, near(0, l));
            case "paths" -> call(which, near(0, l), near(0, l), near(0, l));
            case "row" -> call(which, near(0, l), near(0, l));
            case "times" -> call(which, near(0, l));
            case "back" -> call(which, near(0, l), near(0, l), near(0, 1));
            case "cross" -> call(which, near(0, l), near(0, l), near(0, l), near(0, 1));
            case "orders" -> call(which, near(0, 1), near(-1, 4));
            case "fusions" -> call(which, near(-1, 8));
            case "spread" -> call(which, near(1, (1 << n) - 1), near(0, l), near(0, 1));
            case "shadow" -> call(which, near(1, (1 << n) - 1), near(0, l), near(0, 1));
            case "bound", "most" -> call(which, near(0, (1 << l) - 1) * 2 + (random.nextInt(30) == 0 ? 1 : 0), near(0, 1));
            case "told" -> call(which, near(0, 6));
            default -> call(which);
        }
    }

    private void change(String which) {
        int n = mine.told(4);
        model.told(4);
        switch (which) {
            case "points" -> call(which, near(1, 13));
            case "pair" -> call(which, near(0, n - 1), near(0, n - 1), near(1, 5));
            case "makes" -> make();
            case "renames" -> call(which, near(1, 5), near(1, 5));
            case "drops" -> call(which, near(0, n - 1));
            case "fuses" -> call(which, near(0, 5));
            default -> call(which);
        }
    }

    private void make() {
        int kind = near(0, 5);
        int a = near(1, 13);
        int b = near(1, 13);
        switch (random.nextInt(4) == 0 ? -1 : kind) {
            case 0 -> call("makes", kind, near(2, 11), 0);
            case 1 -> call("makes", kind, near(1, 3), near(2, 3));
            case 2 -> call("makes", kind, near(1, b - 1), b);
            case 3 -> call("makes", kind, near(1, 13), near(1, 4));
            case 4 -> call("makes", kind, near(2, 4), near(2, 4));
            case 5 -> call("makes", kind, new int[] {3, 5, 7, 11, 13}[random.nextInt(5)], near(1, 5));
            default -> call("makes", kind, a, b);
        }
    }

    /** The relation of two elements of a group depends on their difference alone: often a scheme. */
    private void group() {
        int[] orders = GROUPS[random.nextInt(GROUPS.length)];
        int n = Arrays.stream(orders).reduce(1, (a, b) -> a * b);
        int most = 1 + random.nextInt(5);
        int[] sorts = new int[n];
        for (int d = 1; d < n; d++) {
            int minus = difference(0, d, orders);
            sorts[d] = minus < d ? sorts[minus] : 1 + random.nextInt(most);
        }
        fill(orders, sorts);
    }

    private void fill(int[] orders, int[] sorts) {
        int n = sorts.length;
        call("points", n);
        for (int y = 0; y < n; y++) {
            for (int x = 0; x < y; x++) {
                int v = sorts[difference(x, y, orders)];
                if (v != 1) {
                    call("pair", x, y, v);
                }
            }
        }
    }

    /** Each partition of the differences of each group that gives a scheme, under changed names. */
    private static void everyGroup() {
        for (int[] orders : GROUPS) {
            int n = Arrays.stream(orders).reduce(1, (a, b) -> a * b);
            everyPartition(orders, new int[n], 1, 0);
        }
    }

    private static void everyPartition(int[] orders, int[] sorts, int d, int most) {
        if (d == sorts.length) {
            ModelTest test = new ModelTest(Arrays.hashCode(sorts), "group " + Arrays.toString(sorts));
            test.fill(orders, sorts);
            if (test.call("verdict", 0) == 0) {
                int i = 1 + test.random.nextInt(Math.max(1, most));
                test.call("renames", i, i % Math.max(2, most) + 1);
                test.everyQuery();
            }
            return;
        }
        int minus = difference(0, d, orders);
        int first = minus < d ? sorts[minus] : 1;
        int last = minus < d ? sorts[minus] : Math.min(5, most + 1);
        for (int v = first; v <= last; v++) {
            sorts[d] = v;
            everyPartition(orders, sorts, d + 1, Math.max(most, v));
        }
    }

    private static int difference(int x, int y, int[] orders) {
        int result = 0;
        int place = 1;
        for (int order : orders) {
            result += place * Math.floorMod(x / place - y / place, order);
            place *= order;
        }
        return result;
    }

    private void text() {
        call("clear");
        StringBuilder s = new StringBuilder();
        int commands = random.nextInt(6);
        for (int i = 0; i < commands; i++) {
            char letter = "nnpppmrdf".charAt(random.nextInt(9));
            s.append(" ".repeat(random.nextInt(2))).append(letter);
            int numbers = letter == 'p' || letter == 'm' ? 3 : letter == 'r' ? 2 : 1;
            for (int k = 0; k < numbers; k++) {
                s.append(" ".repeat(k > 0 ? 1 + random.nextInt(2) : random.nextInt(2)));
                s.append(random.nextInt(30) == 0 ? random.nextInt(100) : random.nextInt(6));
            }
            s.append(" ".repeat(random.nextInt(2))).append(';');
        }
        if (random.nextInt(3) == 0 && s.length() > 0) {
            int place = random.nextInt(s.length());
            String odd = "0123 ;npx";
            switch (random.nextInt(3)) {
                case 0 -> s.deleteCharAt(place);
                case 1 -> s.insert(place, odd.charAt(random.nextInt(odd.length())));
                default -> s.setCharAt(place, (char) random.nextInt(128));
            }
        }
        for (int i = 0; i < s.length(); i++) {
            call("type", (int) s.charAt(i));
        }
        if (random.nextInt(10) == 0) {
            call("type", near(0, 127));
        }
        call("reads");
    }

    private void run(int most, boolean groups) {
        while (calls.size() < most) {
            int dice = random.nextInt(100);
            if (groups && dice < 8) {
                group();
            } else if (dice < 20) {
                make();
            } else if (dice < 45) {
                change(CHANGES[random.nextInt(CHANGES.length)]);
            } else if (dice < 48) {
                text();
            } else {
                query(QUERIES[random.nextInt(QUERIES.length)]);
            }
            if (dice % 7 == 0) {
                call("digest");
            }
        }
        call("digest");
    }

    /** Every query that a table allows. */
    private void everyQuery() {
        int n = mine.told(4);
        int l = mine.told(5);
        for (int i = -1; i <= l + 1; i++) {
            call("valence", i);
            call("times", i);
            call("orders", 0, i);
            call("orders", 1, i);
            for (int j = 0; j <= l; j++) {
                call("row", i, j);
                call("back", j, i, 0);
                call("back", j, i, 1);
                for (int k = 0; k <= l; k++) {
                    call("paths", i, j, k);
                    call("cross", i, j, k, 0);
                    call("cross", i, j, k, 1);
                }
            }
            for (int k = 0; k < 5; k++) {
                int code = 1 + random.nextInt((1 << n) - 1);
                call("shadow", code, i, 0);
                call("shadow", code, i, 1);
                call("spread", code, i, 0);
                call("spread", code, i, 1);
            }
        }
        for (int allowed = 0; allowed < 4 << l; allowed += 2) {
            call("bound", allowed, 0);
            call("bound", allowed, 1);
            call("most", allowed, 0);
            call("most", allowed, 1);
        }
        for (int k = -1; k <= 52; k++) {
            if (call("fusions", k) == -5) {
                break;
            }
        }
        for (int what = 0; what <= 5; what++) {
            call("verdict", what);
        }
        call("rows");
        call("digest");
    }

    private static void everyMade() {
        for (int kind = -1; kind <= 6; kind++) {
            for (int a = -1; a <= 14; a++) {
                for (int b = -1; b <= 14; b++) {
                    ModelTest test = new ModelTest(1000L * kind + 20 * a + b, "makes " + kind + " " + a + " " + b);
                    if (test.call("makes", kind, a, b) > 0) {
                        test.everyQuery();
                    }
                }
            }
        }
    }

    private static void sieves() {
        ModelTest test = new ModelTest(0, "sieve");
        for (int n = 2; n <= 61; n++) {
            int count = (int) test.call("sieved", n, -1);
            for (int i = 0; i <= count; i++) {
                test.call("sieved", n, i);
            }
            test.call("sieved", n, -2);
        }
        PairSorts mine = new PairSorts();
        Model model = new Model();
        for (int n = 2; n <= 61; n++) {
            for (int k = 0; k <= n - 1; k++) {
                for (int l = -1; l <= k; l++) {
                    for (int m = -1; m <= k + 1; m++) {
                        Due.due("sieve " + n + " " + k + " " + l + " " + m, mine.sieve(n, k, l, m), model.sieve(n, k, l, m));
                    }
                }
            }
        }
    }

    public static void main(String[] args) {
        int runs = args.length > 0 ? Integer.parseInt(args[0]) : 300;
        long start = args.length > 1 ? Long.parseLong(args[1]) : 1;
        everyMade();
        everyGroup();
        sieves();
        for (long seed = start; seed < start + runs; seed++) {
            new ModelTest(seed, "run " + seed).run(120, false);
            new ModelTest(seed, "run with groups " + seed).run(400, true);
            ModelTest one = new ModelTest(seed, "group " + seed);
            one.group();
            one.everyQuery();
        }
        Due.end();
    }
}
