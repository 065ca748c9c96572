/** Promises 23 and 24: sieve, sieved. */
public final class SieveTest {
    public static void main(String[] args) {
        results();
        errors();
        lists();
        listErrors();
        Due.end();
    }

    private static void sieved(int n, int k, int l, int m, int due) {
        Due.due("sieve(" + n + ", " + k + ", " + l + ", " + m + ")", new PairSorts().sieve(n, k, l, m), due);
    }

    private static void results() {
        // known graphs: the pentagon, Petersen's, Clebsch's, Schlaefli's, Hoffman and Singleton's, lattices, Gewirtz'
        int[][] graphs = {{5, 2, 0, 1}, {10, 3, 0, 1}, {10, 6, 3, 4}, {16, 5, 0, 2}, {27, 16, 10, 8}, {27, 10, 1, 5},
            {50, 7, 0, 1},
            {9, 4, 1, 2}, {16, 6, 2, 2}, {13, 6, 2, 3}, {56, 10, 0, 2}, {6, 3, 0, 3}, {6, 4, 2, 4}, {4, 1, 0, 0},
            {15, 6, 1, 3}};
        for (int[] g : graphs) {
            sieved(g[0], g[1], g[2], g[3], 0);
        }
        sieved(3, 1, 0, 1, 1);
        sieved(10, 3, 0, 2, 1);
        sieved(60, 58, 57, 58, 1);
        // k * (k - l - 1) = 3 * 2 = 6 = (n - k - 1) * m = 3 * 2; D = 8 is no square; W = 6 - 12
        sieved(7, 3, 0, 2, 2);
        // no square, but W = 0: conference graphs, also for 21 and 33, which have none
        sieved(21, 10, 4, 5, 0);
        sieved(33, 16, 7, 8, 0);
        // s = 4 and W = 14: f is 42 / 8; for one pair and a point s = 2 and W = 2: f is 1 / 2
        sieved(15, 7, 3, 3, 3);
        sieved(21, 8, 1, 4, 3);
        sieved(3, 1, 0, 0, 3);
        // Moore graph of degree 4: D = 13 is no square, W = 8 - 16
        sieved(17, 4, 0, 1, 2);
        // the Krein conditions exclude 28, 9, 0, 4, and its complement
        sieved(28, 9, 0, 4, 4);
        sieved(28, 18, 12, 10, 4);
        // the absolute bound excludes 50, 21, 4, 12, and its complement
        sieved(50, 21, 4, 12, 5);
        sieved(50, 28, 18, 12, 5);
        // the bound is not asked if m is 0 or k: heaps, and their complements
        sieved(60, 1, 0, 0, 0);
        sieved(60, 58, 56, 58, 0);
    }

    private static void errors() {
        PairSorts x = new PairSorts();
        int[][] wrong = {{2, 1, 0, 0}, {61, 1, 0, 0}, {10, 0, 0, 0}, {10, 9, 0, 0}, {10, 3, -1, 0}, {10, 3, 3, 0},
            {10, 3, 0, -1}, {10, 3, 0, 4}, {Integer.MIN_VALUE, 1, 0, 0}, {Integer.MAX_VALUE, 1, 0, 0},
            {10, Integer.MIN_VALUE, 0, 0}, {10, 3, 0, Integer.MAX_VALUE}};
        for (int[] w : wrong) {
            String call = "sieve(" + w[0] + ", " + w[1] + ", " + w[2] + ", " + w[3] + ")";
            Due.bad(call, x, () -> x.sieve(w[0], w[1], w[2], w[3]));
        }
    }

    private static void listDue(int n, int... due) {
        PairSorts x = new PairSorts();
        Due.due("sieved(" + n + ", NONE)", x.sieved(n, PairSorts.NONE), due.length);
        for (int i = 0; i < due.length; i++) {
            Due.due("sieved(" + n + ", " + i + ")", x.sieved(n, i), due[i]);
        }
        Due.due("sieved(" + n + ", " + due.length + ")", x.sieved(n, due.length), -5);
        Due.due("sieved(" + n + ", MAX)", x.sieved(n, Integer.MAX_VALUE), -5);
        Due.due("told(0) after it", x.told(0), 0);
    }

    private static void lists() {
        listDue(3);
        listDue(4, 10000, 20002);
        listDue(5, 20001);
        // three pairs, two triangles, and their complements
        listDue(6, 10000, 20100, 30003, 40204);
        listDue(7);
        // five pairs, Petersen's graph, two pentagons' worth of K5, and their complements
        listDue(10, 10000, 30001, 40300, 50005, 60304, 80608);
    }

    private static void listErrors() {
        PairSorts x = new PairSorts();
        int[][] wrong = {{2, -1}, {61, -1}, {10, -2}, {0, 0}, {-3, 0}, {10, Integer.MIN_VALUE}};
        for (int[] w : wrong) {
            Due.bad("sieved(" + w[0] + ", " + w[1] + ")", x, () -> x.sieved(w[0], w[1]));
        }
        Due.due("sieved(60, NONE) counts what sieve() lets pass", x.sieved(60, PairSorts.NONE), passing(x, 60));
    }

    private static int passing(PairSorts x, int n) {
        int count = 0;
        for (int k = 1; k <= n - 2; k++) {
            for (int l = 0; l < k; l++) {
                for (int m = 0; m <= k; m++) {
                    count += x.sieve(n, k, l, m) == 0 ? 1 : 0;
                }
            }
        }
        return count;
    }
}
