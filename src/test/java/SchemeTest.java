/** Promises 9 to 11: verdict, valence, paths. */
public final class SchemeTest {
    public static void main(String[] args) {
        verdict();
        valence();
        paths();
        Due.end();
    }

    private static void judged(String triangle, int... parts) {
        PairSorts x = Due.table(triangle);
        for (int what = 0; what < 6; what++) {
            long want = what < parts.length ? parts[what] : PairSorts.NONE;
            Due.due("verdict(" + what + ") of " + triangle, x.verdict(what), want);
        }
        Due.due("told(0) after it", x.told(0), 0);
    }

    private static void verdict() {
        judged("", 0);
        judged("1", 0);
        judged("2", 1, 1);
        judged("1 / 11", 0);
        judged("1 / 23 / 321", 0);
        // 3 and 4 are missing
        judged("5 / 12 / 111", 1, 3);
        judged("3 / 33", 1, 1);
        // a path of three points: point 0 has one neighbour, point 1 two
        judged("1 / 21", 2, 1, 1, 0, 0, 17);
        // two neighbours each, but a triangle and a ring of four: the first edge is in a triangle
        judged("1 / 11 / 222 / 2221 / 22221 / 222121", 2, 1, 1, 1, 1, 16 * 3 + 4);
        // a ring of six points has 2 for distances 2 and 3: opposite points have no common neighbour
        judged("1 / 21 / 221 / 2221 / 12221", 2, 1, 1, 2, 2, 3);
        // relation 1 is a ring of six points, and point 0 has no relation 2: the first pair is 1, 3
        judged("1 / 31 / 321 / 3231 / 13331", 2, 1, 1, 2, 16 + 3, 16 + 4);
        // points 0 and 1 have relation 1 twice, point 2 once
        judged("1 / 23 / 131 / 2132", 2, 1, 1, 0, 0, 34);
        // what was in the table before leaves no trace
        PairSorts less = Due.table("1 / 21 / 221 / 1221");
        less.drops(4);
        less.drops(3);
        Due.due("verdict(5) of a path", less.verdict(5), 17);
        Due.due("verdict(3) of a path", less.verdict(3), 0);
        PairSorts x = new PairSorts();
        for (int what : new int[] {-1, 6, Integer.MAX_VALUE, Integer.MIN_VALUE}) {
            Due.bad("verdict(" + what + ")", x, () -> x.verdict(what));
        }
        x.makes(1, 2, 3);
        Due.due("verdict(0) of a scheme", x.verdict(0), 0);
        x.pair(0, 8, 1);
        Due.due("verdict(0) after a change", x.verdict(0), 2);
        x.undo();
        Due.due("verdict(0) after undo()", x.verdict(0), 0);
        Due.due("verdict(1) after undo()", x.verdict(1), PairSorts.NONE);
    }

    private static void valence() {
        PairSorts x = Due.table("1 / 23 / 132");
        // no scheme; point 0 has the relations 1, 2, 1
        int[] due = {1, 2, 1, 0};
        for (int i = 0; i < due.length; i++) {
            Due.due("valence(" + i + ")", x.valence(i), due[i]);
        }
        Due.bad("valence(4)", x, () -> x.valence(4));
        Due.bad("valence(-1)", x, () -> x.valence(-1));
        x.points(1);
        Due.due("valence(0) of one point", x.valence(0), 1);
        Due.bad("valence(1) of one point", x, () -> x.valence(1));
        x.makes(1, 2, 3);
        Due.due("valence(1) of words", x.valence(1), 4);
        Due.due("valence(2) of words", x.valence(2), 4);
    }

    private static void paths() {
        PairSorts x = new PairSorts();
        x.makes(1, 3, 2);
        // the cube: p(1, j, k) is known for distances j, k
        int[][] cube = {{0, 3, 0, 0}, {1, 0, 2, 0}, {0, 2, 0, 1}, {0, 0, 3, 0}};
        for (int k = 0; k <= 3; k++) {
            for (int j = 0; j <= 3; j++) {
                Due.due("paths(1, " + j + ", " + k + ") of the cube", x.paths(1, j, k), cube[k][j]);
                Due.due("paths(" + j + ", 1, " + k + ") of the cube", x.paths(j, 1, k), cube[k][j]);
                Due.due("paths(0, " + j + ", " + k + ")", x.paths(0, j, k), j == k ? 1 : 0);
            }
        }
        Due.due("paths(2, 2, 0) of the cube", x.paths(2, 2, 0), 3);
        Due.due("paths(2, 2, 2) of the cube", x.paths(2, 2, 2), 2);
        Due.due("paths(2, 3, 1) of the cube", x.paths(2, 3, 1), 1);
        int[][] wrong = {{-1, 0, 0}, {0, -1, 0}, {0, 0, -1}, {4, 0, 0}, {0, 4, 0}, {0, 0, 4}};
        for (int[] w : wrong) {
            Due.bad("paths(" + w[0] + ", " + w[1] + ", " + w[2] + ")", x, () -> x.paths(w[0], w[1], w[2]));
        }
        x.pair(0, 7, 1);
        Due.no("paths(1, 1, 1) of no scheme", x, () -> x.paths(1, 1, 1));
        Due.bad("paths(1, 1, 4) of no scheme", x, () -> x.paths(1, 1, 4));
        x.points(13);
        Due.due("paths(1, 1, 1) of 13 points", x.paths(1, 1, 1), 11);
        Due.due("paths(1, 1, 0) of 13 points", x.paths(1, 1, 0), 12);
        x.points(1);
        Due.due("paths(0, 0, 0) of one point", x.paths(0, 0, 0), 1);
    }
}
