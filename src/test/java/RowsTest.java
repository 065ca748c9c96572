/** Promises 12 to 17: rows, row, times, back, cross, orders. */
public final class RowsTest {
    public static void main(String[] args) {
        rowsOfSchemes();
        rowErrors();
        back();
        cross();
        kreinLaws();
        stepOrders();
        rowOrders();
        orderErrors();
        Due.end();
    }

    /** Each row: v(0) to v(L), then the multiplicity. */
    private static void rowsDue(String name, PairSorts x, int[][] due) {
        Due.due("rows() of " + name, x.rows(), due.length);
        int l = x.told(5);
        for (int r = 0; r < due.length; r++) {
            for (int i = 0; i <= l; i++) {
                Due.due("row(" + r + ", " + i + ") of " + name, x.row(r, i), 100 + due[r][i]);
            }
            Due.due("times(" + r + ") of " + name, x.times(r), due[r][l + 1]);
        }
        Due.no("row(" + due.length + ", 0) of " + name, x, () -> x.row(due.length, 0));
        Due.no("times(" + due.length + ") of " + name, x, () -> x.times(due.length));
    }

    private static PairSorts made(int kind, int a, int b) {
        PairSorts x = new PairSorts();
        x.makes(kind, a, b);
        return x;
    }

    private static void rowsOfSchemes() {
        rowsDue("one point", Due.table(""), new int[][] {{1, 1}});
        rowsDue("four points", new PairSorts(), new int[][] {{1, 3, 1}, {1, -1, 3}});
        rowsDue("words of 3 of 2", made(1, 3, 2),
                new int[][] {{1, 3, 3, 1, 1}, {1, 1, -1, -1, 3}, {1, -1, -1, 1, 3}, {1, -3, 3, -1, 1}});
        rowsDue("heaps 2 of 3", made(3, 2, 3), new int[][] {{1, 2, 3, 1}, {1, 2, -3, 1}, {1, -1, 0, 4}});
        rowsDue("grid 2 x 3", made(4, 2, 3),
                new int[][] {{1, 2, 1, 2, 1}, {1, 2, -1, -2, 1}, {1, -1, 1, -1, 2}, {1, -1, -1, 1, 2}});
        rowsDue("ring of 4", made(0, 4, 0), new int[][] {{1, 2, 1, 1}, {1, 0, -1, 2}, {1, -2, 1, 1}});
        rowsDue("ring of 6", made(0, 6, 0),
                new int[][] {{1, 2, 2, 1, 1}, {1, 1, -1, -1, 2}, {1, -1, -1, 1, 2}, {1, -2, 2, -1, 1}});
        // the others are not of integers
        rowsDue("ring of 5", made(0, 5, 0), new int[][] {{1, 2, 2, 1}});
        rowsDue("ring of 8", made(0, 8, 0), new int[][] {{1, 2, 2, 2, 1, 1}, {1, 0, -2, 0, 1, 2}, {1, -2, 2, -2, 1, 1}});
        rowsDue("Z 2 x 2 x 2 with five relations", Due.table("1 / 23 / 321 / 4455 / 44551 / 554423 / 5544321"),
                new int[][] {{1, 1, 1, 1, 2, 2, 1}, {1, 1, 1, 1, -2, -2, 1}, {1, 1, -1, -1, 2, -2, 1},
                    {1, 1, -1, -1, -2, 2, 1}, {1, -1, 1, -1, 0, 0, 2}, {1, -1, -1, 1, 0, 0, 2}});
    }

    private static void rowErrors() {
        PairSorts x = made(0, 5, 0);
        Due.no("row(1, 0)", x, () -> x.row(1, 0));
        Due.bad("row(-1, 0)", x, () -> x.row(-1, 0));
        Due.bad("row(1, 3)", x, () -> x.row(1, 3));
        Due.bad("row(0, -1)", x, () -> x.row(0, -1));
        Due.bad("times(-1)", x, () -> x.times(-1));
        Due.no("times(MAX)", x, () -> x.times(Integer.MAX_VALUE));
        PairSorts path = Due.table("1 / 21");
        Due.no("rows() of no scheme", path, () -> path.rows());
        Due.no("row(0, 0) of no scheme", path, () -> path.row(0, 0));
        Due.bad("row(0, 3) of no scheme", path, () -> path.row(0, 3));
        Due.no("times(0) of no scheme", path, () -> path.times(0));
        Due.bad("times(-1) of no scheme", path, () -> path.times(-1));
    }

    private static void back() {
        PairSorts x = made(2, 2, 5);
        // rows 6 3, 1 -2, -2 1 with the multiplicities 1, 4, 5
        long[][][] due = {{{1, 1}, {4, 1}, {5, 1}}, {{1, 1}, {2, 3}, {-5, 3}}, {{1, 1}, {-8, 3}, {5, 3}}};
        for (int i = 0; i <= 2; i++) {
            for (int r = 0; r <= 2; r++) {
                String call = "back(" + i + ", " + r + ")";
                Due.due(call, x.back(i, r, 0), x.back(i, r, 1), due[i][r][0], due[i][r][1]);
            }
        }
        PairSorts heaps = made(3, 2, 3);
        Due.due("back(2, 2) that is 0", heaps.back(2, 2, 0), heaps.back(2, 2, 1), 0, 1);
        int[][] wrong = {{-1, 0, 0}, {3, 0, 0}, {0, -1, 0}, {0, 0, -1}, {0, 0, 2}, {3, 9, 0}};
        for (int[] w : wrong) {
            String call = "back(" + w[0] + ", " + w[1] + ", " + w[2] + ")";
            Due.refused(call, x, () -> x.back(w[0], w[1], w[2]), -100000, PairSorts.BAD);
        }
        Due.refused("back(0, 3, 0)", x, () -> x.back(0, 3, 0), -100001, PairSorts.NO);
        PairSorts path = Due.table("1 / 21");
        Due.refused("back(0, 0, 0) of no scheme", path, () -> path.back(0, 0, 0), -100001, PairSorts.NO);
        Due.refused("back(0, 0, 2) of no scheme", path, () -> path.back(0, 0, 2), -100000, PairSorts.BAD);
        PairSorts ring = made(0, 5, 0);
        Due.due("back(2, 0) of a scheme that is not integral", ring.back(2, 0, 0), ring.back(2, 0, 1), 1, 1);
        Due.refused("back(2, 1, 0) of it", ring, () -> ring.back(2, 1, 0), -100001, PairSorts.NO);
        PairSorts square = made(0, 4, 0);
        int before = square.told(0);
        Due.due("back(1, 2, 0), a value, not an error", square.back(2, 1, 0), -2);
        Due.due("told(0) after it", square.told(0), before);
    }

    private static void cross() {
        PairSorts x = made(2, 2, 5);
        long[][] due = {{1, 1, 0, 4, 1}, {1, 1, 1, 2, 9}, {1, 1, 2, 20, 9}, {1, 2, 1, 25, 9}, {1, 2, 2, 16, 9},
            {2, 2, 2, 20, 9}, {2, 2, 0, 5, 1}, {0, 1, 1, 1, 1}, {0, 1, 2, 0, 1}, {0, 0, 0, 1, 1}};
        for (long[] d : due) {
            int r = (int) d[0];
            int s = (int) d[1];
            int t = (int) d[2];
            String call = "cross(" + r + ", " + s + ", " + t + ")";
            Due.due(call, x.cross(r, s, t, 0), x.cross(r, s, t, 1), d[3], d[4]);
        }
        int[][] wrong = {{-1, 0, 0, 0}, {0, -1, 0, 0}, {0, 0, -1, 0}, {0, 0, 0, -1}, {0, 0, 0, 2}, {3, 0, 0, 2}};
        for (int[] w : wrong) {
            String call = "cross(" + w[0] + ", " + w[1] + ", " + w[2] + ", " + w[3] + ")";
            Due.bad(call, x, () -> x.cross(w[0], w[1], w[2], w[3]));
        }
        Due.no("cross(3, 0, 0, 0)", x, () -> x.cross(3, 0, 0, 0));
        Due.no("cross(0, 3, 0, 0)", x, () -> x.cross(0, 3, 0, 0));
        Due.no("cross(0, 0, 3, 0)", x, () -> x.cross(0, 0, 3, 0));
        PairSorts ring = made(0, 5, 0);
        Due.no("cross(0, 0, 0, 0) if not integral", ring, () -> ring.cross(0, 0, 0, 0));
        PairSorts path = Due.table("1 / 21");
        Due.no("cross(0, 0, 0, 0) of no scheme", path, () -> path.cross(0, 0, 0, 0));
        Due.bad("cross(0, 0, 0, 2) of no scheme", path, () -> path.cross(0, 0, 0, 2));
        PairSorts one = Due.table("");
        Due.due("cross(0, 0, 0) of one point", one.cross(0, 0, 0, 0), one.cross(0, 0, 0, 1), 1, 1);
    }

    /** For each integral scheme the Krein parameters of r, s and all t, times multiplicity(t), sum to those of r and s. */
    private static void kreinLaws() {
        int[][] kinds = {{0, 6, 0}, {1, 3, 2}, {1, 2, 3}, {2, 2, 5}, {3, 3, 4}, {4, 3, 4}, {4, 2, 6}, {1, 1, 13}};
        for (int[] k : kinds) {
            PairSorts x = made(k[0], k[1], k[2]);
            for (int r = 0; r < x.rows(); r++) {
                for (int s = 0; s < x.rows(); s++) {
                    Fraction sum = Fraction.ZERO;
                    for (int t = 0; t < x.rows(); t++) {
                        Fraction q = Fraction.of(x.cross(r, s, t, 0), x.cross(r, s, t, 1));
                        sum = sum.plus(q.times(Fraction.of(x.times(t), 1)));
                    }
                    Due.due("Krein law", sum.half(0), (long) x.times(r) * x.times(s));
                    Due.due("Krein law", sum.half(1), 1);
                }
            }
        }
    }

    private static void ordersDue(String name, PairSorts x, int which, int... due) {
        Due.due("orders(" + which + ", NONE) of " + name, x.orders(which, PairSorts.NONE), due.length);
        for (int k = 0; k < due.length; k++) {
            Due.due("orders(" + which + ", " + k + ") of " + name, x.orders(which, k), due[k]);
        }
        int[] errors = {x.told(0), x.told(1)};
        Due.due("orders(" + which + ", " + due.length + ") of " + name, x.orders(which, due.length), -5);
        Due.due("orders(" + which + ", MAX) of " + name, x.orders(which, Integer.MAX_VALUE), -5);
        Due.due("-5 is no error", x.told(0) + x.told(1), errors[0] + errors[1]);
    }

    private static void stepOrders() {
        ordersDue("one point", Due.table(""), 0, 0);
        ordersDue("two points", Due.table("1"), 0, 1);
        ordersDue("the cube", made(1, 3, 2), 0, 123);
        ordersDue("a ring of 11", made(0, 11, 0), 0, 12345, 24531, 35214, 43152, 51423);
        ordersDue("a ring of 7", made(0, 7, 0), 0, 123, 231, 312);
        ordersDue("a ring of 6", made(0, 6, 0), 0, 123);
        // relation 3 of this grid is a ring of six points
        ordersDue("a grid", made(4, 2, 3), 0, 312);
        ordersDue("a square grid", made(4, 3, 3), 0);
        // 1 in heaps is disconnected, so only 21 is an order
        ordersDue("heaps", made(3, 2, 3), 0, 21);
    }

    private static void rowOrders() {
        ordersDue("one point", Due.table(""), 1, 0);
        ordersDue("two points", Due.table("1"), 1, 1);
        ordersDue("the cube", made(1, 3, 2), 1, 123);
        ordersDue("sets", made(2, 2, 5), 1, 12, 21);
        ordersDue("heaps", made(3, 2, 3), 1, 21);
        ordersDue("a square grid", made(4, 3, 3), 1);
        ordersDue("a ring of 6", made(0, 6, 0), 1, 123);
    }

    private static void orderErrors() {
        PairSorts x = made(0, 5, 0);
        Due.no("orders(1, 0) if not integral", x, () -> x.orders(1, 0));
        Due.no("orders(1, NONE) if not integral", x, () -> x.orders(1, PairSorts.NONE));
        int[][] wrong = {{-1, 0}, {2, 0}, {0, -2}, {1, -2}, {0, Integer.MIN_VALUE}};
        for (int[] w : wrong) {
            Due.bad("orders(" + w[0] + ", " + w[1] + ")", x, () -> x.orders(w[0], w[1]));
        }
        PairSorts path = Due.table("1 / 21");
        Due.no("orders(0, NONE) of no scheme", path, () -> path.orders(0, PairSorts.NONE));
        Due.no("orders(1, 9) of no scheme", path, () -> path.orders(1, 9));
        Due.bad("orders(2, 0) of no scheme", path, () -> path.orders(2, 0));
    }
}
