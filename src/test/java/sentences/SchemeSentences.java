/** THE TABLE as far as it tells of schemes, and promises 9 to 11. */
final class SchemeSentences extends Sentences {
    /** A ring of six points with relation 2 for the distances 2 and 3: only pairs of relation 2 differ. */
    private static final String RING = "1 / 21 / 221 / 2221 / 12221";

    static void all() {
        theTable();
        theVerdict();
        verdict();
        valence();
        paths();
    }

    private static Run judged(String triangle, long... parts) {
        Run run = Run.of(triangle);
        for (int what = 0; what <= 5; what++) {
            run.quiet("verdict(" + what + ")", what < parts.length ? parts[what] : -1);
        }
        return run;
    }

    private static void theTable() {
        at("THE TABLE");
        says("For relations i, j the path number of a pair x, y is the number of points z, x and y included, such that x, "
                + "z have the relation i and z, y have the relation j.", () -> {
            // z is x for i = 0, y for j = 0, both for a point and itself
            Run.busy().then("points(4)").due("paths(0, 1, 1)", 1).due("paths(1, 0, 1)", 1).due("paths(0, 0, 0)", 1)
                    .due("paths(0, 0, 1)", 0).due("paths(0, 1, 0)", 0).due("paths(1, 1, 0)", 3).due("paths(1, 1, 1)", 2);
            Run.busy().then("points(13)").due("paths(1, 1, 0)", 12).due("paths(1, 1, 1)", 11).due("paths(0, 1, 1)", 1);
            Run.of("1").due("paths(1, 1, 0)", 1).due("paths(1, 1, 1)", 0);
            // from one end of a ring of 6 to the other: two steps and one, or one and two
            Run.kind(0, 6, 0).due("paths(1, 2, 3)", 2).due("paths(2, 1, 3)", 2).due("paths(3, 3, 0)", 1)
                    .due("paths(3, 3, 3)", 0);
        });
        says("The table is a scheme if each relation from 0 to L occurs, and for all i, j, k from 0 to L the path number "
                + "for i, j is the same for all pairs of relation k;", () -> {
            for (int n = 1; n <= 13; n++) {
                Run.busy().then("points(" + n + ")").due("verdict(0)", 0);
            }
            // all alike, but no relation 1; all but 4
            judged("2", 1, 1).no("rows()");
            judged("1 / 23 / 511", 1, 4).no("rows()");
            // k is 0; k is L; i and j are 2; i is 1, and j and k are 4 of 5
            judged(PATH, 2, 1, 1, 0, 0, 17).no("rows()");
            judged(RING, 2, 1, 1, 2, 2, 3).no("rows()");
            judged("3 / 13 / 213 / 1213 / 21213 / 121213 / 3121213", 2, 2, 2, 1, 2, 4).no("rows()");
            judged("3 / 43 / 243 / 1243 / 21243 / 421243 / 3521243", 2, 1, 4, 4, 2, 49).no("rows()");
            // one pair of many
            Run.kind(4, 3, 4).due("verdict(0)", 0).then("pair(10, 11, 2)").due("verdict(0)", 2).then("undo()")
                    .due("verdict(0)", 0);
        });
        says("this number is the intersection number p(i, j, k).", () -> {
            int[][][] cube = {{{1, 0, 0, 0}, {0, 3, 0, 0}, {0, 0, 3, 0}, {0, 0, 0, 1}},
                {{0, 1, 0, 0}, {1, 0, 2, 0}, {0, 2, 0, 1}, {0, 0, 1, 0}},
                {{0, 0, 1, 0}, {0, 2, 0, 1}, {1, 0, 2, 0}, {0, 1, 0, 0}},
                {{0, 0, 0, 1}, {0, 0, 3, 0}, {0, 3, 0, 0}, {1, 0, 0, 0}}};
            Run run = Run.kind(1, 3, 2);
            for (int k = 0; k <= 3; k++) {
                for (int i = 0; i <= 3; i++) {
                    for (int j = 0; j <= 3; j++) {
                        run.due("paths(" + i + ", " + j + ", " + k + ")", cube[k][i][j]);
                    }
                }
            }
        });
    }

    private static void theVerdict() {
        says("The verdict on the table is 0 if it is a scheme;", () -> {
            judged("", 0);
            judged("1", 0);
            judged("1 / 11", 0);
            judged("1 / 23 / 321", 0);
            int[][] kinds = {{0, 11, 0}, {1, 3, 2}, {2, 2, 5}, {3, 6, 2}, {4, 2, 6}, {5, 13, 3}, {5, 11, 5}, {3, 1, 13}};
            for (int[] k : kinds) {
                Run.kind(k[0], k[1], k[2]).list("verdict(#)", 0, 0, -1, -1, -1, -1, -1);
            }
        });
        says("1 if some relation less than L does not occur (the smallest such relation is missing);", () -> {
            judged("2", 1, 1);
            judged("5", 1, 1);
            // 2 and 4 are missing; 3 and 4; 4 alone; 1 alone
            judged("1 / 35", 1, 2);
            judged("5 / 12 / 111", 1, 3);
            judged("1 / 23 / 511", 1, 4);
            judged("2 / 33 / 232", 1, 1);
            // also if the path numbers differ; not if the greatest relation is the one that does not occur
            judged("1 / 31", 1, 2);
            judged("1 / 21 / 112", 2, 1, 1, 0, 0, 17);
            Run.kind(4, 2, 2).due("verdict(0)", 0).then("renames(3, 4)").due("verdict(0)", 1).due("verdict(1)", 3);
        });
        says("otherwise 2, with the first i, j, k (compared by i, then j, then k) for which the path numbers for i, j are "
                + "not the same for all pairs of relation k, the first pair of relation k (compared by x, then y), and the "
                + "first pair of relation k whose path number for i, j is different from that of the first pair.", () -> {
            judged(PATH, 2, 1, 1, 0, 0, 17);
            judged("2 / 12", 2, 1, 1, 0, 0, 17);
            // the valencies of relation 1 differ first at point 2; the others at point 1
            judged("1 / 23 / 131 / 2132", 2, 1, 1, 0, 0, 34);
            judged("2 / 12 / 213", 2, 1, 2, 2, 1, 3);
            judged("1 / 23 / 421", 2, 1, 3, 2, 2, 19);
            judged("3 / 23 / 231 / 1322 / 31333", 2, 2, 2, 0, 0, 17);
            judged("1 / 11 / 222 / 2221 / 22221 / 222121", 2, 1, 1, 1, 1, 52);
            judged("1 / 31 / 231 / 3231 / 13331", 2, 1, 1, 3, 2, 37);
            // the first pair has neither point 0
            judged("4 / 12 / 122 / 3114 / 21515", 2, 1, 1, 5, 37, 69);
            judged("1 / 31 / 321 / 3231 / 13331", 2, 1, 1, 2, 19, 20);
            // the pair that differs is the first one the other way round
            judged("1 / 32 / 321", 2, 1, 2, 2, 18, 33);
            judged("1 / 31 / 121", 2, 1, 2, 1, 1, 16);
            judged("2 / 15 / 413", 2, 1, 2, 4, 3, 48);
            // of 13 points the last two differ
            Run.busy().then("points(13)", "pair(12, 11, 2)").list("verdict(#)", 0, 2, 1, 1, 0, 0, 16 * 11 + 11);
        });
        says("The valency of relation i is the number of points y such that 0, y have the relation i.", () -> {
            // of no other point than 0; itself included
            Run.of("1 / 23 / 132").list("valence(#)", 0, 1, 2, 1, 0);
            Run.of("2 / 21 / 211").list("valence(#)", 0, 1, 0, 3);
            Run.of("5").list("valence(#)", 0, 1, 0, 0, 0, 0, 1);
            Run.busy().then("points(13)").list("valence(#)", 0, 1, 12);
            Run.of("").list("valence(#)", 0, 1);
        });
    }

    private static void verdict() {
        at("Promise 9");
        says("Returns a part of the verdict.", () -> {
            // each part alone, and asked for in any order
            Run.of("1 / 23 / 421").due("verdict(5)", 19).due("verdict(4)", 2).due("verdict(3)", 2).due("verdict(2)", 3)
                    .due("verdict(1)", 1).due("verdict(0)", 2);
        });
        says("- `what`: 0: the verdict, 0 to 2;", () -> {
            Run.of("1").due("verdict(0)", 0);
            Run.of("2").due("verdict(0)", 1);
            Run.of(PATH).due("verdict(0)", 2);
        });
        says("1: for verdict 1 the missing relation, for verdict 2 i;", () -> {
            Run.of("1 / 35").due("verdict(1)", 2);
            Run.of("1 / 23 / 511").due("verdict(1)", 4);
            Run.of(PATH).due("verdict(1)", 1);
            Run.of("3 / 23 / 231 / 1322 / 31333").due("verdict(1)", 2);
        });
        says("2: j;", () -> Run.of("1 / 23 / 421").due("verdict(2)", 3));
        says("3: k;", () -> {
            Run.of(PATH).due("verdict(3)", 0);
            Run.of("4 / 12 / 122 / 3114 / 21515").due("verdict(3)", 5);
        });
        says("4: the first pair, as 16 * x + y;", () -> {
            Run.of(PATH).due("verdict(4)", 0);
            Run.of("4 / 12 / 122 / 3114 / 21515").due("verdict(4)", 16 * 2 + 5);
        });
        says("5: the pair with another path number, as 16 * x + y", () -> {
            Run.of(PATH).due("verdict(5)", 17);
            Run.of("4 / 12 / 122 / 3114 / 21515").due("verdict(5)", 16 * 4 + 5);
            // the greatest pair there can be: of the valencies only that of the last point differs
            Run.busy().then("points(13)", "pair(0, 12, 2)", "pair(1, 2, 2)", "pair(3, 4, 2)", "pair(5, 6, 2)",
                    "pair(7, 8, 2)", "pair(9, 10, 2)", "pair(11, 12, 2)").due("verdict(5)", 16 * 12 + 12);
        });
        says("Returns the part;", () -> Run.kind(1, 2, 3).due("verdict(0)", 0).then("pair(0, 8, 1)").due("verdict(0)", 2)
                .due("verdict(3)", 0).then("undo()").due("verdict(0)", 0).due("verdict(3)", -1));
        says("NONE if the verdict has no such part;", () -> {
            Run.of("1").quiet("verdict(1)", -1).quiet("verdict(2)", -1).quiet("verdict(3)", -1).quiet("verdict(4)", -1)
                    .quiet("verdict(5)", -1);
            Run.of("2").quiet("verdict(2)", -1).quiet("verdict(3)", -1).quiet("verdict(4)", -1).quiet("verdict(5)", -1);
        });
        says("BAD if what is out of range.", () -> {
            for (String triangle : new String[] {"", "1", "2", PATH}) {
                Run.of(triangle).bad("verdict(-1)", "verdict(6)", "verdict(MIN)", "verdict(MAX)");
            }
        });
    }

    private static void valence() {
        at("Promise 10");
        says("Returns the valency of a relation, also if the table is not a scheme.", () -> {
            Run.kind(1, 3, 2).list("valence(#)", 0, 1, 3, 3, 1);
            Run.of(PATH).list("valence(#)", 0, 1, 1, 1);
            Run.of("5 / 12 / 111").list("valence(#)", 0, 1, 2, 0, 0, 0, 1);
        });
        says("- `i`: 0 to L", () -> {
            Run.kind(0, 11, 0).due("valence(0)", 1).due("valence(5)", 2).bad("valence(6)");
            Run.kind(0, 4, 0).due("valence(2)", 1).bad("valence(3)", "valence(5)");
        });
        says("Returns the valency;", () -> Run.busy().then("points(13)").due("valence(1)", 12).then("pair(0, 12, 2)")
                .due("valence(1)", 11).due("valence(2)", 1).then("undo()").due("valence(1)", 12));
        says("BAD if i is out of range.", () -> {
            Run.of(PATH).bad("valence(-1)", "valence(3)", "valence(MIN)", "valence(MAX)");
            Run.of("").bad("valence(1)", "valence(-1)");
        });
    }

    private static void paths() {
        at("Promise 11");
        says("Returns an intersection number.", () -> Run.kind(2, 2, 5).due("paths(1, 1, 0)", 6).due("paths(1, 1, 1)", 3)
                .due("paths(1, 1, 2)", 4).due("paths(1, 2, 1)", 2).due("paths(2, 2, 1)", 1).due("paths(2, 2, 2)", 0)
                .then("makes(0, 4, 0)").due("paths(1, 1, 0)", 2).due("paths(1, 1, 1)", 0).due("paths(1, 1, 2)", 2));
        says("- `i`: 0 to L", () -> Run.kind(1, 3, 2).due("paths(0, 1, 1)", 1).due("paths(3, 1, 2)", 1)
                .bad("paths(-1, 1, 1)", "paths(4, 1, 1)", "paths(MIN, 1, 1)", "paths(MAX, 1, 1)"));
        says("- `j`: 0 to L", () -> Run.kind(1, 3, 2).due("paths(1, 0, 1)", 1).due("paths(1, 3, 2)", 1)
                .bad("paths(1, -1, 1)", "paths(1, 4, 1)", "paths(1, MIN, 1)", "paths(1, MAX, 1)"));
        says("- `k`: 0 to L", () -> Run.kind(1, 3, 2).due("paths(1, 1, 0)", 3).due("paths(1, 2, 3)", 3)
                .bad("paths(1, 1, -1)", "paths(1, 1, 4)", "paths(1, 1, MIN)", "paths(1, 1, MAX)"));
        says("Returns the number;", () -> {
            Run.of("").due("paths(0, 0, 0)", 1);
            Run.kind(0, 11, 0).due("paths(5, 5, 1)", 1).due("paths(5, 5, 5)", 0).due("paths(5, 5, 0)", 2);
        });
        says("BAD if an argument is out of range;", () -> {
            Run.of("").bad("paths(1, 0, 0)", "paths(0, 1, 0)", "paths(0, 0, 1)");
            Run.of(PATH).bad("paths(3, 0, 0)", "paths(0, 3, 0)", "paths(0, 0, 3)", "paths(-1, 0, 0)", "paths(0, -1, 0)",
                    "paths(0, 0, -1)");
        });
        says("NO if the table is not a scheme.", () -> {
            Run.of(PATH).no("paths(0, 0, 0)", "paths(1, 1, 1)", "paths(2, 2, 2)");
            // a relation that does not occur is in range
            Run.of("2").no("paths(1, 1, 1)", "paths(0, 0, 0)");
            Run.kind(1, 3, 2).due("paths(1, 1, 2)", 2).then("pair(0, 7, 1)").no("paths(1, 1, 2)").then("undo()")
                    .due("paths(1, 1, 2)", 2);
        });
    }
}
