/** Promises 18 to 22: fusions, spread, shadow, bound, most. */
public final class CodesTest {
    public static void main(String[] args) {
        fusions();
        spread();
        shadow();
        bound();
        boundErrors();
        most();
        Due.end();
    }

    private static PairSorts made(int kind, int a, int b) {
        PairSorts x = new PairSorts();
        x.makes(kind, a, b);
        return x;
    }

    private static void fusionsDue(String name, PairSorts x, int... due) {
        Due.due("fusions(NONE) of " + name, x.fusions(PairSorts.NONE), due.length);
        for (int k = 0; k < due.length; k++) {
            Due.due("fusions(" + k + ") of " + name, x.fusions(k), due[k]);
        }
        Due.due("fusions(" + due.length + ") of " + name, x.fusions(due.length), -5);
        Due.due("fusions(MAX) of " + name, x.fusions(Integer.MAX_VALUE), -5);
        Due.due("told(0) after it", x.told(0), 0);
        Due.due("told(1) after it", x.told(1), 0);
    }

    private static void fusions() {
        fusionsDue("one point", Due.table(""));
        fusionsDue("four points", new PairSorts(), 1);
        fusionsDue("the cube", made(1, 3, 2), 111, 112, 121, 123);
        fusionsDue("a square grid", made(4, 2, 2), 111, 112, 121, 122, 123);
        fusionsDue("a grid", made(4, 3, 3), 111, 112, 121, 122, 123);
        fusionsDue("a path, no scheme", Due.table("1 / 21"), 11);
        fusionsDue("a relation missing", Due.table("4 / 11 / 112"), 1111, 1121, 1212, 1222, 1232);
        fusionsDue("two points of relation 3", Due.table("3"), 111, 121);
        fusionsDue("makes(5, 11, 5)", made(5, 11, 5), 11111, 12345);
        PairSorts x = new PairSorts();
        Due.bad("fusions(-2)", x, () -> x.fusions(-2));
        Due.bad("fusions(MIN)", x, () -> x.fusions(Integer.MIN_VALUE));
        Due.due("fusions(0) before a change", x.fusions(0), 1);
        x.pair(0, 1, 2);
        Due.due("fusions(0) after a change", x.fusions(0), 11);
    }

    private static void spread() {
        PairSorts x = Due.table("1 / 21 / 221");
        // 0, 1, 2 of a path: two pairs of neighbours and one other, each in both directions
        Due.due("spread(7, 0)", x.spread(7, 0, 0), x.spread(7, 0, 1), 1, 1);
        Due.due("spread(7, 1)", x.spread(7, 1, 0), x.spread(7, 1, 1), 4, 3);
        Due.due("spread(7, 2)", x.spread(7, 2, 0), x.spread(7, 2, 1), 2, 3);
        Due.due("spread(15, 2)", x.spread(15, 2, 0), x.spread(15, 2, 1), 3, 2);
        Due.due("spread(9, 1) that is 0", x.spread(9, 1, 0), x.spread(9, 1, 1), 0, 1);
        Due.due("spread(8, 0)", x.spread(8, 0, 0), x.spread(8, 0, 1), 1, 1);
        int[][] wrong = {{0, 0, 0}, {16, 0, 0}, {-1, 0, 0}, {17, 0, 0}, {7, -1, 0}, {7, 3, 0}, {7, 0, -1}, {7, 0, 2},
            {Integer.MIN_VALUE, 0, 0}, {Integer.MAX_VALUE, 0, 0}};
        for (int[] w : wrong) {
            Due.bad("spread(" + w[0] + ", " + w[1] + ", " + w[2] + ")", x, () -> x.spread(w[0], w[1], w[2]));
        }
        PairSorts most = made(1, 1, 13);
        Due.due("spread(8191, 1)", most.spread(8191, 1, 0), most.spread(8191, 1, 1), 12, 1);
    }

    private static void shadow() {
        PairSorts x = made(2, 2, 5);
        // of 0, 1, 2, 3 five pairs are of relation 1, one is of relation 2
        Due.due("shadow(15, 0)", x.shadow(15, 0, 0), x.shadow(15, 0, 1), 4, 1);
        Due.due("shadow(15, 1)", x.shadow(15, 1, 0), x.shadow(15, 1, 1), 13, 3);
        Due.due("shadow(15, 2)", x.shadow(15, 2, 0), x.shadow(15, 2, 1), 5, 3);
        Due.due("shadow(1023, 1)", x.shadow(1023, 1, 0), x.shadow(1023, 1, 1), 0, 1);
        Due.due("shadow(512, 2)", x.shadow(512, 2, 0), x.shadow(512, 2, 1), 5, 1);
        int[][] wrong = {{0, 0, 0}, {1024, 0, 0}, {-1, 0, 0}, {1, -1, 0}, {1, 0, -1}, {1, 0, 2}, {1, 3, 2}};
        for (int[] w : wrong) {
            Due.bad("shadow(" + w[0] + ", " + w[1] + ", " + w[2] + ")", x, () -> x.shadow(w[0], w[1], w[2]));
        }
        Due.no("shadow(1, 3, 0)", x, () -> x.shadow(1, 3, 0));
        PairSorts ring = made(0, 5, 0);
        Due.no("shadow(1, 0, 0) if not integral", ring, () -> ring.shadow(1, 0, 0));
        PairSorts path = Due.table("1 / 21");
        Due.no("shadow(1, 0, 0) of no scheme", path, () -> path.shadow(1, 0, 0));
        Due.bad("shadow(8, 0, 0) of no scheme", path, () -> path.shadow(8, 0, 0));
    }

    private static void boundDue(PairSorts x, int allowed, long top, long bottom) {
        Due.due("bound(" + allowed + ")", x.bound(allowed, 0), x.bound(allowed, 1), top, bottom);
    }

    private static void bound() {
        boundDue(Due.table(""), 0, 1, 1);
        boundDue(new PairSorts(), 0, 1, 1);
        boundDue(new PairSorts(), 2, 4, 1);
        PairSorts sets = made(2, 2, 5);
        // one relation alone: the bound is 1 - valency / least value
        boundDue(sets, 2, 4, 1);
        boundDue(sets, 4, 5, 2);
        boundDue(sets, 6, 10, 1);
        PairSorts cube = made(1, 3, 2);
        boundDue(cube, 2, 2, 1);
        boundDue(cube, 4, 4, 1);
        boundDue(cube, 8, 2, 1);
        // at most 8 / 2 and 8 / 4, as the bounds for the other relations are 2 and 4
        boundDue(cube, 6, 4, 1);
        boundDue(cube, 10, 2, 1);
        boundDue(cube, 12, 4, 1);
        boundDue(cube, 14, 8, 1);
        PairSorts grid = made(4, 3, 4);
        boundDue(grid, 2, 4, 1);
        boundDue(grid, 4, 3, 1);
        boundDue(grid, 8, 3, 1);
        boundDue(grid, 14, 12, 1);
    }

    private static void boundErrors() {
        PairSorts x = made(1, 3, 2);
        for (int allowed : new int[] {1, 16, 3, 30, -1, -2, Integer.MIN_VALUE, Integer.MAX_VALUE, 1 << 30}) {
            Due.bad("bound(" + allowed + ", 0)", x, () -> x.bound(allowed, 0));
            Due.bad("most(" + allowed + ", 0)", x, () -> x.most(allowed, 0));
        }
        for (int what : new int[] {-1, 2}) {
            Due.bad("bound(2, " + what + ")", x, () -> x.bound(2, what));
            Due.bad("most(2, " + what + ")", x, () -> x.most(2, what));
        }
        PairSorts ring = made(0, 5, 0);
        Due.no("bound(2, 0) if not integral", ring, () -> ring.bound(2, 0));
        Due.bad("bound(8, 0) if not integral", ring, () -> ring.bound(8, 0));
        PairSorts path = Due.table("1 / 21");
        Due.no("bound(2, 0) of no scheme", path, () -> path.bound(2, 0));
        Due.bad("bound(2, 2) of no scheme", path, () -> path.bound(2, 2));
        PairSorts one = Due.table("");
        Due.bad("bound(2, 0) of one point", one, () -> one.bound(2, 0));
    }

    private static void mostDue(PairSorts x, int allowed, int count, int code) {
        Due.due("most(" + allowed + ", 0)", x.most(allowed, 0), count);
        Due.due("most(" + allowed + ", 1)", x.most(allowed, 1), code);
    }

    private static void most() {
        mostDue(Due.table(""), 0, 1, 1);
        mostDue(new PairSorts(), 0, 1, 1);
        mostDue(new PairSorts(), 2, 4, 15);
        mostDue(made(1, 1, 13), 2, 13, 8191);
        mostDue(made(1, 3, 2), 4, 4, 105);
        mostDue(made(1, 3, 2), 2, 2, 3);
        mostDue(made(1, 3, 2), 8, 2, 24);
        // distances 1 and 3 join words of different parity, so no three words
        mostDue(made(1, 3, 2), 10, 2, 3);
        mostDue(made(0, 7, 0), 12, 3, 1 | 4 | 16);
        mostDue(made(3, 4, 3), 4, 4, 1 | 8 | 64 | 512);
        // no scheme: 1, 2 and 4 are joined, and so are 0, 3 and 4
        PairSorts x = Due.table("2 / 21 / 122 / 1111");
        mostDue(x, 2, 3, 2 + 4 + 16);
        mostDue(x, 4, 2, 3);
        mostDue(x, 6, 5, 31);
    }
}
