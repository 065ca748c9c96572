/** Promises 1 to 8: a new object, points, pair, makes, renames, drops, fuses, sort. */
public final class TableTest {
    public static void main(String[] args) {
        newObject();
        points();
        pair();
        makesRing();
        makesWords();
        makesSets();
        makesHeaps();
        makesGrid();
        makesPowers();
        makesRefuses();
        renames();
        drops();
        fuses();
        sort();
        Due.end();
    }

    private static void newObject() {
        PairSorts x = new PairSorts();
        int[] figures = {0, 0, 0, 0, 4, 1, 0};
        for (int what = 0; what < figures.length; what++) {
            Due.due("told(" + what + ") at first", x.told(what), figures[what]);
        }
        Due.same("the table at first", Due.triangle(x), "1 / 11 / 111");
        Due.due("clear() at first", x.clear(), 0);
        Due.no("undo() at first", x, () -> x.undo());
        PairSorts other = new PairSorts();
        x.points(7);
        Due.due("told(4) of another object", other.told(4), 4);
    }

    private static void points() {
        PairSorts x = new PairSorts();
        x.pair(0, 1, 5);
        Due.due("points(13)", x.points(13), 4);
        Due.due("told(4) after points(13)", x.told(4), 13);
        Due.due("told(5) after points(13)", x.told(5), 1);
        for (int a = 0; a < 13; a++) {
            for (int b = 0; b < 13; b++) {
                Due.due("sort(" + a + ", " + b + ") of 13 points", x.sort(a, b), a == b ? 0 : 1);
            }
        }
        Due.due("points(1)", x.points(1), 13);
        Due.due("told(5) of one point", x.told(5), 0);
        for (int n : new int[] {0, 14, -1, Integer.MIN_VALUE, Integer.MAX_VALUE}) {
            Due.bad("points(" + n + ")", x, () -> x.points(n));
        }
        Due.due("told(6) after three changes", x.told(6), 3);
    }

    private static void pair() {
        PairSorts x = new PairSorts();
        Due.due("pair(0, 3, 5)", x.pair(0, 3, 5), 1);
        Due.due("pair(3, 0, 2)", x.pair(3, 0, 2), 5);
        Due.same("the table after pair()", Due.triangle(x), "1 / 11 / 211");
        Due.due("pair(0, 3, 2) that changes nothing", x.pair(0, 3, 2), 2);
        Due.due("told(6), also if nothing changes", x.told(6), 3);
        int[][] wrong = {{0, 0, 1}, {4, 0, 1}, {0, 4, 1}, {-1, 0, 1}, {0, -1, 1}, {0, 1, 0}, {0, 1, 6},
            {0, Integer.MAX_VALUE, 1}, {Integer.MIN_VALUE, 0, 1}};
        for (int[] w : wrong) {
            Due.bad("pair(" + w[0] + ", " + w[1] + ", " + w[2] + ")", x, () -> x.pair(w[0], w[1], w[2]));
        }
    }

    private static void made(int kind, int a, int b, int n, String triangle) {
        PairSorts x = new PairSorts();
        x.pair(0, 1, 5);
        String call = "makes(" + kind + ", " + a + ", " + b + ")";
        Due.due(call, x.makes(kind, a, b), n);
        Due.due("told(4) after " + call, x.told(4), n);
        Due.due("told(6) after " + call, x.told(6), 2);
        Due.same("the table of " + call, Due.triangle(x), triangle);
    }

    private static void makesRing() {
        made(0, 2, 0, 2, "1");
        made(0, 5, 0, 5, "1 / 21 / 221 / 1221");
        made(0, 6, 0, 6, "1 / 21 / 321 / 2321 / 12321");
        made(0, 11, 0, 11, "1 / 21 / 321 / 4321 / 54321 / 554321 / 4554321 / 34554321 / 234554321 / 1234554321");
    }

    private static void makesWords() {
        made(1, 1, 3, 3, "1 / 11");
        made(1, 2, 2, 4, "1 / 12 / 211");
        made(1, 3, 2, 8, "1 / 12 / 211 / 1223 / 21321 / 231212 / 3221211");
        made(1, 2, 3, 9, "1 / 11 / 122 / 2121 / 22111 / 122122 / 2122121 / 22122111");
        made(1, 1, 13, 13, new String("1/11/111/1111/11111/111111/1111111/11111111/111111111/1111111111/11111111111"
                + "/111111111111").replace("/", " / "));
    }

    private static void makesSets() {
        // 0011, 0101, 0110, 1001, 1010, 1100
        made(2, 2, 4, 6, "1 / 11 / 112 / 1211 / 21111");
        made(2, 1, 4, 4, "1 / 11 / 111");
        made(2, 3, 4, 4, "1 / 11 / 111");
        made(2, 1, 2, 2, "1");
        PairSorts x = new PairSorts();
        Due.due("makes(2, 3, 5)", x.makes(2, 3, 5), 10);
        // 00111 and 11100 share one element, 00111 and 01011 two
        Due.due("sort(0, 9) of the sets of 3 of 5", x.sort(0, 9), 2);
        Due.due("sort(0, 1) of the sets of 3 of 5", x.sort(0, 1), 1);
        Due.due("makes(2, 12, 13)", x.makes(2, 12, 13), 13);
    }

    private static void makesHeaps() {
        made(3, 2, 3, 6, "1 / 11 / 222 / 2221 / 22211");
        made(3, 3, 2, 6, "1 / 22 / 221 / 2222 / 22221");
        made(3, 4, 1, 4, "1 / 11 / 111");
        made(3, 1, 4, 4, "1 / 11 / 111");
        made(3, 1, 1, 1, "");
        PairSorts x = new PairSorts();
        Due.due("makes(3, 13, 1)", x.makes(3, 13, 1), 13);
        Due.due("makes(3, 1, 13)", x.makes(3, 1, 13), 13);
    }

    private static void makesGrid() {
        made(4, 2, 2, 4, "1 / 23 / 321");
        made(4, 2, 3, 6, "1 / 11 / 233 / 3231 / 33211");
        made(4, 3, 2, 6, "1 / 23 / 321 / 2323 / 32321");
        PairSorts x = new PairSorts();
        Due.due("makes(4, 2, 6)", x.makes(4, 2, 6), 12);
        Due.due("makes(4, 6, 2)", x.makes(4, 6, 2), 12);
    }

    private static void makesPowers() {
        made(5, 3, 1, 3, "1 / 11");
        made(5, 5, 2, 5, "1 / 21 / 221 / 1221");
        // 3 is the smallest primitive root modulo 7; 1, 3, 2, 6, 4, 5 are its powers
        made(5, 7, 3, 7, "1 / 31 / 231 / 2231 / 32231 / 132231");
        PairSorts x = new PairSorts();
        Due.due("makes(5, 13, 3)", x.makes(5, 13, 3), 13);
        // 2 to the power 0 to 11 modulo 13
        int[] powers = {1, 2, 4, 8, 3, 6, 12, 11, 9, 5, 10, 7};
        for (int e = 0; e < powers.length; e++) {
            Due.due("sort(0, " + powers[e] + ") of makes(5, 13, 3)", x.sort(0, powers[e]), e % 3 + 1);
        }
        Due.due("makes(5, 11, 5)", x.makes(5, 11, 5), 11);
        Due.due("makes(5, 13, 2)", x.makes(5, 13, 2), 13);
        Due.due("makes(5, 11, 1)", x.makes(5, 11, 1), 11);
    }

    private static void makesRefuses() {
        int[][] wrong = {{-1, 2, 0}, {6, 2, 2}, {0, 1, 0}, {0, 12, 0}, {0, 5, 1}, {0, 5, -1}, {1, 0, 5}, {1, 4, 2},
            {1, 1, 1}, {1, 1, 14}, {1, 2, 4}, {1, 3, 3}, {2, 0, 5}, {2, 5, 5}, {2, 1, 1}, {2, 1, 14}, {2, 2, 6},
            {2, 4, 6}, {3, 0, 1}, {3, 1, 0}, {3, 14, 1}, {3, 1, 14}, {3, 2, 7}, {3, 7, 2}, {4, 1, 2}, {4, 2, 1},
            {4, 2, 7}, {4, 7, 2}, {4, 4, 4}, {5, 2, 1}, {5, 9, 2}, {5, 17, 2}, {5, 7, 2}, {5, 13, 6}, {5, 13, 0},
            {5, 3, 2}, {5, 5, -1}, {3, 1 << 16, 1 << 16}, {1, 3, Integer.MAX_VALUE}, {2, 1, Integer.MAX_VALUE}};
        PairSorts x = new PairSorts();
        x.makes(0, 5, 0);
        for (int[] w : wrong) {
            Due.bad("makes(" + w[0] + ", " + w[1] + ", " + w[2] + ")", x, () -> x.makes(w[0], w[1], w[2]));
        }
    }

    private static void renames() {
        PairSorts x = Due.table("1 / 23 / 132");
        Due.due("renames(1, 3)", x.renames(1, 3), 4);
        Due.same("the table after renames(1, 3)", Due.triangle(x), "3 / 21 / 312");
        Due.due("renames(4, 2)", x.renames(4, 2), 2);
        Due.same("the table after renames(4, 2)", Due.triangle(x), "3 / 41 / 314");
        Due.due("renames(3, 1)", x.renames(3, 1), 4);
        Due.due("renames(1, 3)", x.renames(1, 3), 4);
        Due.due("renames(5, 2) that changes nothing", x.renames(5, 2), 0);
        Due.due("told(6) after it", x.told(6), 6);
        x.drops(3);
        Due.due("renames(1, 2) of what is left", x.renames(1, 2), 1);
        int[][] wrong = {{1, 1}, {0, 1}, {1, 0}, {6, 1}, {1, 6}, {-1, 2}, {5, Integer.MIN_VALUE}};
        for (int[] w : wrong) {
            Due.bad("renames(" + w[0] + ", " + w[1] + ")", x, () -> x.renames(w[0], w[1]));
        }
    }

    private static void drops() {
        PairSorts x = Due.table("1 / 23 / 451 / 2345");
        Due.due("drops(1)", x.drops(1), 4);
        Due.same("the table after drops(1)", Due.triangle(x), "2 / 41 / 245");
        Due.due("drops(3)", x.drops(3), 3);
        Due.same("the table after drops(3)", Due.triangle(x), "2 / 41");
        Due.bad("drops(3) of three points", x, () -> x.drops(3));
        Due.bad("drops(-1)", x, () -> x.drops(-1));
        Due.due("drops(0)", x.drops(0), 2);
        Due.same("the table after drops(0)", Due.triangle(x), "1");
        Due.due("drops(0)", x.drops(0), 1);
        Due.due("told(5) of one point", x.told(5), 0);
        Due.no("drops(0) of one point", x, () -> x.drops(0));
        Due.bad("drops(1) of one point", x, () -> x.drops(1));
    }

    private static void fuses() {
        PairSorts x = new PairSorts();
        x.makes(1, 3, 2);
        // the good fusions are 111, 112, 121 and 123
        Due.due("fuses(2)", x.fuses(2), 2);
        Due.same("the table after fusion 121", Due.triangle(x), "1 / 12 / 211 / 1221 / 21121 / 211212 / 1221211");
        Due.due("undo()", x.undo(), 1);
        Due.due("fuses(3) that changes nothing", x.fuses(3), 3);
        Due.due("told(6) after it", x.told(6), 2);
        Due.no("fuses(4)", x, () -> x.fuses(4));
        Due.no("fuses(MAX)", x, () -> x.fuses(Integer.MAX_VALUE));
        Due.bad("fuses(-1)", x, () -> x.fuses(-1));
        PairSorts one = new PairSorts();
        one.points(1);
        Due.no("fuses(0) of one point", one, () -> one.fuses(0));
        PairSorts gap = Due.table("4 / 11 / 112");
        // 1111 and 1121 make all relations 1, then 1212, 1222 and 1232 make 2 of 2 and 4
        Due.due("fuses(4) with relation 3 missing", gap.fuses(4), 2);
        Due.same("the table after fusion 1232", Due.triangle(gap), "2 / 11 / 112");
    }

    private static void sort() {
        PairSorts x = Due.table("1 / 23");
        Due.due("sort(1, 2)", x.sort(1, 2), 3);
        Due.due("sort(2, 1)", x.sort(2, 1), 3);
        Due.due("sort(2, 0)", x.sort(2, 0), 2);
        Due.due("sort(2, 2)", x.sort(2, 2), 0);
        int[][] wrong = {{3, 0}, {0, 3}, {-1, 0}, {0, -1}, {3, 3}, {13, 13}, {Integer.MIN_VALUE, 0}};
        for (int[] w : wrong) {
            Due.bad("sort(" + w[0] + ", " + w[1] + ")", x, () -> x.sort(w[0], w[1]));
        }
    }
}
