/** THE TABLE as far as it is no scheme yet, and promises 1 to 8. */
final class TableSentences extends Sentences {
    private static final String[] CHANGES = {"points(13)", "makes(1, 3, 2)", "fuses(1)", "pair(7, 0, 5)",
        "renames(1, 5)", "drops(0)", "undo()", "points(1)"};

    static void all() {
        theTable();
        newObject();
        points();
        pair();
        makes();
        makesRing();
        makesWords();
        makesSets();
        makesHeaps();
        makesGrid();
        makesPowers();
        makesAnswers();
        renames();
        drops();
        fuses();
        sort();
    }

    private static void theTable() {
        at("THE TABLE");
        says("There are n points, 1 to 13, numbered from 0;", () -> {
            Run.busy().due("points(1)", 5).due("sort(0, 0)", 0).bad("sort(1, 0)", "sort(0, 1)", "sort(-1, 0)");
            Run.busy().due("points(13)", 5).due("sort(12, 0)", 1).bad("sort(13, 0)", "sort(0, 13)", "sort(-1, 12)");
            Run.busy().bad("points(0)", "points(14)");
        });
        says("4 at first.", () -> new Run().due("told(4)", 4).due("sort(3, 3)", 0).bad("sort(4, 4)"));
        says("Each two different points x, y have a relation from 1 to 5, the same for y, x;", () -> {
            Run run = Run.busy().bad("pair(0, 3, 0)", "pair(0, 3, 6)");
            for (int v = 1; v <= 5; v++) {
                run.then("pair(0, 3, " + v + ")").due("sort(0, 3)", v).due("sort(3, 0)", v);
                run.then("pair(2, 1, " + v + ")").due("sort(1, 2)", v).due("sort(2, 1)", v);
            }
        });
        says("it is 1 at first.", () -> {
            Run run = new Run();
            for (int x = 0; x < 4; x++) {
                for (int y = 0; y < 4; y++) {
                    run.due("sort(" + x + ", " + y + ")", x == y ? 0 : 1);
                }
            }
        });
        says("Each point and itself have the relation 0.", () -> {
            Run run = new Run();
            for (String change : CHANGES) {
                long n = run.then(change).call("told(4)");
                for (int x = 0; x < n; x++) {
                    run.due("sort(" + x + ", " + x + ")", 0);
                }
            }
        });
        says("L is the greatest relation that occurs (0 if n is 1).", () -> {
            Run run = new Run().due("told(5)", 1).then("pair(0, 1, 5)").due("told(5)", 5);
            run.then("pair(2, 3, 4)").due("told(5)", 5).then("pair(0, 1, 2)").due("told(5)", 4);
            run.then("points(1)").due("told(5)", 0).then("undo()").due("told(5)", 4);
            run.then("drops(3)").due("told(5)", 2).then("drops(2)").due("told(5)", 2).then("drops(0)").due("told(5)", 0);
            new Run().then("points(13)", "pair(12, 11, 3)").due("told(5)", 3).then("drops(12)").due("told(5)", 1);
            new Run().then("renames(1, 4)").due("told(5)", 4).then("makes(3, 1, 1)").due("told(5)", 0);
        });
        says("In this document pairs are ordered, and x and y may be equal: x, y and y, x are two pairs, unless x and y "
                + "are equal.", () -> {
            Run.busy().fraction("spread(3, 1)", 1, 1).fraction("spread(7, 1)", 2, 1).fraction("spread(1, 0)", 1, 1);
            Run.busy().fraction("spread(7, 0)", 1, 1);
            // pairs of relation 1: from 0 to 1 a path by 3, from 1 to 0 none
            Run.of("1 / 31 / 121").list("verdict(#)", 0, 2, 1, 2, 1, 1, 16);
        });
    }

    private static void newObject() {
        at("Promise 1");
        says("Creates the table described, with an empty text;", () -> {
            new Run().list("told(#)", 0, 0, 0, 0, 0, 4, 1, 0).shows(FOUR).due("clear()", 0).due("reads()", -10);
            // an object knows nothing of another one
            new Run().then("points(7)", "type(65)", "told(9)");
            new Run().list("told(#)", 0, 0, 0, 0, 0, 4, 1, 0).due("type(110)", 1);
        });
        says("nothing can be undone.", () -> new Run().due("told(6)", 0).no("undo()").shows(FOUR));
    }

    private static void points() {
        at("Promise 2");
        says("Sets the number of points.", () -> {
            Run run = new Run();
            for (int n = 1; n <= 13; n++) {
                run.then("points(" + n + ")").due("told(4)", n);
            }
        });
        says("All relations of different points become 1.", () -> {
            Run.of("5 / 23").then("points(3)").shows("1 / 11");
            Run.of("5 / 23").then("points(4)").shows(FOUR);
            Run.of("5 / 23").then("points(2)").shows("1").then("points(3)").shows("1 / 11");
            Run.of("5 / 23").then("points(1)").shows("").then("points(3)").shows("1 / 11");
            Run run = new Run().then("points(13)", "pair(12, 0, 3)", "pair(12, 11, 4)", "points(13)");
            for (int x = 0; x < 13; x++) {
                for (int y = 0; y < 13; y++) {
                    run.due("sort(" + x + ", " + y + ")", x == y ? 0 : 1);
                }
            }
        });
        says("- `n`: 1 to 13", () -> new Run().due("points(1)", 4).due("points(13)", 1).due("points(1)", 13));
        says("Returns the number of points before;", () -> new Run().due("points(13)", 4).due("points(2)", 13)
                .due("points(2)", 2).due("points(5)", 2));
        says("BAD if n is out of range.", () -> Run.busy().bad("points(0)", "points(14)", "points(-1)", "points(MIN)",
                "points(MAX)"));
    }

    private static void pair() {
        at("Promise 3");
        says("Sets the relation of two points.", () -> {
            new Run().then("pair(0, 3, 5)").shows("1 / 11 / 511").then("pair(3, 2, 2)").shows("1 / 11 / 512");
            new Run().then("points(13)", "pair(12, 11, 4)").due("sort(11, 12)", 4).due("sort(12, 10)", 1);
        });
        says("- `x`: number of a point", () -> {
            new Run().due("pair(0, 3, 2)", 1).due("pair(3, 1, 2)", 1).bad("pair(-1, 0, 1)", "pair(4, 0, 1)",
                    "pair(MIN, 0, 1)", "pair(MAX, 0, 1)");
            new Run().then("points(13)").due("pair(12, 0, 2)", 1).bad("pair(13, 0, 1)");
        });
        says("- `y`: number of another point", () -> {
            new Run().due("pair(3, 0, 2)", 1).due("pair(1, 3, 2)", 1).bad("pair(0, -1, 1)", "pair(0, 4, 1)",
                    "pair(0, MIN, 1)", "pair(0, MAX, 1)");
            new Run().then("points(13)").due("pair(0, 12, 2)", 1).bad("pair(0, 13, 1)");
            new Run().then("points(1)").bad("pair(0, 0, 1)", "pair(0, 1, 1)");
        });
        says("- `v`: 1 to 5", () -> new Run().due("pair(0, 1, 5)", 1).due("pair(0, 1, 1)", 5).due("sort(1, 0)", 1));
        says("Returns the relation before;", () -> new Run().due("pair(0, 1, 5)", 1).due("pair(1, 0, 2)", 5)
                .due("pair(0, 1, 2)", 2).due("pair(0, 1, 3)", 2).due("pair(0, 2, 3)", 1));
        says("BAD if an argument is out of range, or x equals y.", () -> Run.busy().bad("pair(5, 0, 1)", "pair(0, 5, 1)",
                "pair(0, 1, 0)", "pair(0, 1, 6)", "pair(0, 1, -1)", "pair(0, 1, MIN)", "pair(0, 1, MAX)",
                "pair(0, 0, 1)", "pair(4, 4, 2)", "pair(5, 5, 1)", "pair(-1, -1, 0)"));
    }

    private static Run made(String call, int n, String triangle) {
        return Run.busy().then("pair(0, 1, 5)").due(call, n).due("told(4)", n).shows(triangle);
    }

    private static void makes() {
        at("Promise 4");
        says("Makes a table of a kind; for each kind the relation of two different points is told.", () -> {
            // what was there before leaves no trace
            made("makes(0, 4, 0)", 4, "1 / 21 / 121").then("points(13)", "pair(12, 0, 5)", "makes(0, 3, 0)")
                    .shows("1 / 11").then("points(13)").due("told(5)", 1);
        });
    }

    private static void makesRing() {
        says("kind 0, ring: a is 2 to 11, b is 0;", () -> {
            Run.busy().due("makes(0, 2, 0)", 2).due("makes(0, 11, 0)", 11);
            Run.busy().bad("makes(0, 1, 0)", "makes(0, 12, 0)", "makes(0, 5, 1)", "makes(0, 5, -1)", "makes(0, 0, 0)",
                    "makes(0, -2, 0)", "makes(0, MIN, 0)", "makes(0, MAX, 0)", "makes(0, 5, 5)");
        });
        says("n is a;", () -> {
            for (int a = 2; a <= 11; a++) {
                Run.busy().due("makes(0, " + a + ", 0)", a).due("told(4)", a).due("told(5)", a / 2);
            }
        });
        says("the distance of x and y on a ring of a points.", () -> {
            made("makes(0, 2, 0)", 2, "1");
            made("makes(0, 3, 0)", 3, "1 / 11");
            // from the last point one step leads to the first
            made("makes(0, 6, 0)", 6, "1 / 21 / 321 / 2321 / 12321");
            made("makes(0, 11, 0)", 11,
                    "1 / 21 / 321 / 4321 / 54321 / 554321 / 4554321 / 34554321 / 234554321 / 1234554321");
        });
    }

    private static void makesWords() {
        says("kind 1, words: a is 1 to 3, b is 2 to 13;", () -> {
            Run.busy().due("makes(1, 1, 2)", 2).due("makes(1, 1, 13)", 13).due("makes(1, 3, 2)", 8);
            Run.busy().bad("makes(1, 0, 2)", "makes(1, 4, 2)", "makes(1, 1, 1)", "makes(1, 1, 14)", "makes(1, 0, 13)",
                    "makes(1, -1, 2)", "makes(1, 3, 1)", "makes(1, 3, 0)", "makes(1, 2, -2)", "makes(1, 2, -3)",
                    "makes(1, 1, MAX)", "makes(1, MIN, 2)", "makes(1, MAX, 2)");
            // these numbers of words wrap around to 1, 0 and 9
            Run.busy().bad("makes(1, 2, MAX)", "makes(1, 2, 65536)", "makes(1, 3, 259969305)");
        });
        says("the points are all numbers with a digits to base b, leading zeros included;", () -> {
            Run.busy().due("makes(1, 2, 3)", 9).due("makes(1, 2, 2)", 4).due("makes(1, 3, 2)", 8);
            for (int b = 2; b <= 13; b++) {
                Run.busy().due("makes(1, 1, " + b + ")", b);
            }
            // 000 and 111, 001 and 010
            Run.kind(1, 3, 2).due("sort(0, 7)", 3).due("sort(1, 2)", 2);
        });
        says("the number of digits that differ.", () -> {
            made("makes(1, 1, 3)", 3, "1 / 11");
            made("makes(1, 3, 2)", 8, "1 / 12 / 211 / 1223 / 21321 / 231212 / 3221211");
            made("makes(1, 2, 3)", 9, "1 / 11 / 122 / 2121 / 22111 / 122122 / 2122121 / 22122111");
        });
    }

    private static void makesSets() {
        says("kind 2, sets: b is 2 to 13, a is 1 to b - 1;", () -> {
            Run.busy().due("makes(2, 1, 2)", 2).due("makes(2, 1, 13)", 13).due("makes(2, 12, 13)", 13);
            Run.busy().bad("makes(2, 1, 1)", "makes(2, 1, 14)", "makes(2, 13, 14)", "makes(2, 0, 2)", "makes(2, 2, 2)",
                    "makes(2, 0, 13)", "makes(2, 13, 13)", "makes(2, 0, 1)", "makes(2, 1, 0)", "makes(2, 1, 32)",
                    "makes(2, 1, 33)", "makes(2, -1, 5)", "makes(2, MIN, 5)", "makes(2, 1, MAX)", "makes(2, 1, MIN)");
        });
        says("the points are all sets of a of b elements, ordered as bit masks;", () -> {
            Run.busy().due("makes(2, 2, 4)", 6).due("makes(2, 2, 5)", 10).due("makes(2, 3, 5)", 10);
            // of 5 elements: 00111, 01011, .. 11010, 11100
            Run.kind(2, 3, 5).due("sort(0, 9)", 2).due("sort(0, 1)", 1).due("sort(8, 9)", 1);
            Run.kind(2, 2, 4).due("sort(0, 5)", 2).due("sort(2, 3)", 2).due("sort(1, 4)", 2);
        });
        says("the number of elements of the one that are not in the other one.", () -> {
            // 0011, 0101, 0110, 1001, 1010, 1100
            made("makes(2, 2, 4)", 6, "1 / 11 / 112 / 1211 / 21111");
            made("makes(2, 1, 4)", 4, FOUR);
            made("makes(2, 3, 4)", 4, FOUR);
        });
    }

    private static void makesHeaps() {
        says("kind 3, heaps: a and b are 1 to 13;", () -> {
            Run.busy().due("makes(3, 1, 1)", 1).due("makes(3, 13, 1)", 13).due("makes(3, 1, 13)", 13);
            Run.busy().bad("makes(3, 0, 1)", "makes(3, 1, 0)", "makes(3, 14, 1)", "makes(3, 1, 14)", "makes(3, 0, 0)",
                    "makes(3, -1, -1)", "makes(3, -3, -4)", "makes(3, MIN, 1)", "makes(3, 1, MAX)");
            // these products wrap around to 2, 2, 1 and 0
            Run.busy().bad("makes(3, 3, 1431655766)", "makes(3, 1431655766, 3)", "makes(3, MAX, MAX)",
                    "makes(3, 65536, 65536)");
        });
        says("n is a * b, and point x is in heap x / b (integer division);", () -> {
            Run.busy().due("makes(3, 6, 2)", 12).due("told(4)", 12).due("makes(3, 2, 6)", 12).due("told(4)", 12);
            // of 4 heaps of 3 points the second one begins with point 3
            Run.kind(3, 4, 3).due("sort(2, 0)", 1).due("sort(2, 3)", 2).due("sort(3, 5)", 1).due("sort(5, 6)", 2);
        });
        says("1 if both are in the same heap, otherwise 2;", () -> {
            made("makes(3, 2, 3)", 6, "1 / 11 / 222 / 2221 / 22211");
            made("makes(3, 3, 2)", 6, "1 / 22 / 221 / 2222 / 22221");
            made("makes(3, 1, 4)", 4, FOUR);
        });
        says("but 1 for all if b is 1.", () -> {
            made("makes(3, 4, 1)", 4, FOUR);
            made("makes(3, 2, 1)", 2, "1");
            made("makes(3, 1, 1)", 1, "");
            Run.kind(3, 13, 1).due("told(5)", 1).due("sort(12, 0)", 1);
        });
    }

    private static void makesGrid() {
        says("kind 4, grid: a and b are 2 to 6;", () -> {
            Run.busy().due("makes(4, 2, 2)", 4).due("makes(4, 2, 6)", 12).due("makes(4, 6, 2)", 12);
            Run.busy().bad("makes(4, 1, 2)", "makes(4, 2, 1)", "makes(4, 7, 2)", "makes(4, 2, 7)", "makes(4, 1, 1)",
                    "makes(4, 0, 3)", "makes(4, 12, 1)", "makes(4, 1, 13)", "makes(4, -2, -3)", "makes(4, MAX, 2)",
                    "makes(4, 2, MIN)");
            // these products wrap around to 8
            Run.busy().bad("makes(4, 3, 1431655768)", "makes(4, 1431655768, 3)");
        });
        says("n is a * b, and point x is in row x / b and column x % b;", () -> {
            Run.busy().due("makes(4, 3, 4)", 12).due("told(4)", 12).due("makes(4, 3, 3)", 9).due("told(4)", 9);
            // rows of 4: 3 ends the first one, 4 stands under 0, 7 under 3
            Run.kind(4, 3, 4).due("sort(0, 3)", 1).due("sort(3, 4)", 3).due("sort(0, 4)", 2).due("sort(7, 3)", 2)
                    .due("sort(3, 11)", 2).due("sort(8, 11)", 1);
        });
        says("1 if both are in the same row, 2 if they are in the same column, otherwise 3.", () -> {
            made("makes(4, 2, 2)", 4, "1 / 23 / 321");
            made("makes(4, 2, 3)", 6, "1 / 11 / 233 / 3231 / 33211");
            made("makes(4, 3, 2)", 6, "1 / 23 / 321 / 2323 / 32321");
        });
    }

    private static void makesPowers() {
        says("kind 5, powers: a is 3, 5, 7, 11 or 13;", () -> {
            Run.busy().due("makes(5, 3, 1)", 3).due("makes(5, 5, 1)", 5).due("makes(5, 7, 1)", 7)
                    .due("makes(5, 11, 1)", 11).due("makes(5, 13, 1)", 13);
            Run run = Run.busy();
            for (int a : new int[] {-3, 0, 1, 2, 4, 6, 8, 9, 10, 12, 14, 17}) {
                run.bad("makes(5, " + a + ", 1)");
            }
            Run.busy().bad("makes(5, MIN, 1)", "makes(5, MAX, 1)");
        });
        says("b is 1 to 5 and divides (a - 1) / 2;", () -> {
            int[][] good = {{3, 1}, {5, 1}, {5, 2}, {7, 1}, {7, 3}, {11, 1}, {11, 5}, {13, 1}, {13, 2}, {13, 3}};
            for (int a : new int[] {3, 5, 7, 11, 13}) {
                for (int b = -1; b <= 6; b++) {
                    String call = "makes(5, " + a + ", " + b + ")";
                    if (isIn(good, a, b)) {
                        Run.busy().due(call, a).due("told(5)", b);
                    } else {
                        Run.busy().bad(call);
                    }
                }
            }
            Run.busy().bad("makes(5, 13, MIN)", "makes(5, 13, MAX)");
        });
        says("n is a.", () -> Run.kind(5, 13, 2).due("told(4)", 13).then("makes(5, 3, 1)").due("told(4)", 3));
        says("Let g be the smallest primitive root modulo a, that is, the smallest number above 1 whose powers modulo a "
                + "are all numbers from 1 to a - 1;", () -> {
            // modulo 7 it is 3, as 2 has the powers 1, 2, 4 alone: 3 is g, of the second sort
            Run.kind(5, 7, 3).due("sort(3, 0)", 2).due("sort(2, 0)", 3).due("sort(1, 0)", 1);
            // elsewhere it is 2, and 2 is of the second sort; another root would put it elsewhere
            Run.kind(5, 5, 2).due("sort(2, 0)", 2);
            Run.kind(5, 11, 5).due("sort(2, 0)", 2).due("sort(4, 0)", 3).due("sort(8, 0)", 4).due("sort(5, 0)", 5);
            Run.kind(5, 13, 3).due("sort(2, 0)", 2).due("sort(4, 0)", 3).due("sort(8, 0)", 1);
        });
        says("let e, from 0 to a - 2, be such that g to the power e is x - y modulo a;", () -> {
            int[] powers = {1, 2, 4, 8, 3, 6, 12, 11, 9, 5, 10, 7};
            Run run = Run.kind(5, 13, 3);
            for (int e = 0; e < powers.length; e++) {
                for (int y : new int[] {0, 1, 12}) {
                    run.due("sort(" + (y + powers[e]) % 13 + ", " + y + ")", e % 3 + 1);
                }
            }
        });
        says("e % b + 1.", () -> {
            made("makes(5, 3, 1)", 3, "1 / 11");
            made("makes(5, 5, 2)", 5, "1 / 21 / 221 / 1221");
            made("makes(5, 7, 3)", 7, "1 / 31 / 231 / 2231 / 32231 / 132231");
        });
    }

    private static boolean isIn(int[][] pairs, int a, int b) {
        boolean found = false;
        for (int[] p : pairs) {
            found |= p[0] == a && p[1] == b;
        }
        return found;
    }

    private static void makesAnswers() {
        says("- `kind`: 0 to 5", () -> {
            Run.busy().due("makes(0, 3, 0)", 3).due("makes(5, 3, 1)", 3);
            Run.busy().bad("makes(-1, 3, 0)", "makes(6, 3, 1)", "makes(MIN, 3, 0)", "makes(MAX, 3, 1)");
        });
        plain("- `a`: as described - `b`: as described");
        says("Returns the number of points;", () -> Run.busy().due("makes(3, 1, 1)", 1).due("makes(3, 13, 1)", 13)
                .due("makes(4, 2, 3)", 6).due("makes(4, 2, 3)", 6));
        says("BAD if an argument is not as described, or there would be more than 13 points.", () -> {
            // 16, 27 and 196 words; 15 and 1716 sets; 14, 14 and 169 in heaps; 15, 15 and 36 in a grid
            Run.busy().bad("makes(1, 2, 4)", "makes(1, 3, 3)", "makes(1, 2, 13)", "makes(1, 3, 13)", "makes(2, 2, 6)",
                    "makes(2, 4, 6)", "makes(2, 6, 13)", "makes(2, 7, 13)", "makes(3, 2, 7)", "makes(3, 7, 2)",
                    "makes(3, 13, 13)", "makes(4, 3, 5)", "makes(4, 5, 3)", "makes(4, 6, 6)");
            Run.busy().due("makes(3, 6, 2)", 12).due("makes(3, 4, 3)", 12).due("makes(4, 4, 3)", 12);
        });
    }

    private static void renames() {
        at("Promise 5");
        says("Exchanges two relations: pairs with relation i get j, and those with j get i.", () -> {
            Run.of("1 / 23 / 132").then("renames(1, 3)").shows("3 / 21 / 312").then("renames(3, 1)").shows("1 / 23 / 132");
            Run.of("1 / 23 / 132").then("renames(5, 2)").shows("1 / 53 / 135").then("renames(5, 4)").shows("1 / 43 / 134");
        });
        says("- `i`: 1 to 5", () -> Run.of("1 / 25").due("renames(1, 3)", 1).due("renames(5, 3)", 2)
                .bad("renames(0, 1)", "renames(6, 1)", "renames(-1, 1)", "renames(MIN, 1)", "renames(MAX, 1)"));
        says("- `j`: 1 to 5", () -> Run.of("1 / 25").due("renames(3, 1)", 1).due("renames(3, 5)", 2)
                .bad("renames(1, 0)", "renames(1, 6)", "renames(1, -1)", "renames(1, MIN)", "renames(1, MAX)"));
        says("Returns how many pairs x, y with x less than y have another relation then;", () -> {
            Run.of("1 / 23 / 132").due("renames(1, 3)", 4).due("renames(2, 4)", 2).due("renames(2, 5)", 0);
            new Run().then("points(13)").due("renames(1, 5)", 78).due("renames(5, 1)", 78).due("renames(5, 4)", 0);
            new Run().then("points(1)").due("renames(1, 5)", 0).due("told(6)", 2);
        });
        says("BAD if an argument is out of range, or i equals j.", () -> Run.busy().bad("renames(1, 1)", "renames(5, 5)",
                "renames(0, 0)", "renames(6, 6)", "renames(0, 6)", "renames(2, 6)", "renames(0, 2)"));
    }

    private static void drops() {
        at("Promise 6");
        String five = "1 / 23 / 451 / 2345";
        says("Removes a point.", () -> Run.of(five).then("drops(4)").shows("1 / 23 / 451").then("drops(3)").shows("1 / 23")
                .then("drops(2)").shows("1").then("drops(1)").shows("").due("sort(0, 0)", 0));
        says("The points behind it get numbers that are 1 less.", () -> {
            Run.of(five).then("drops(0)").shows("3 / 51 / 345");
            Run.of(five).then("drops(1)").shows("2 / 41 / 245");
            Run.of(five).then("drops(3)").shows("1 / 23 / 234");
            Run.of("3 / 45").then("drops(0)").shows("5").then("drops(0)").shows("");
            // the last one is gone, also for a table that grows again
            Run.of(five).then("drops(4)", "points(5)").shows("1 / 11 / 111 / 1111");
        });
        says("- `x`: number of a point", () -> {
            new Run().then("points(13)").bad("drops(13)", "drops(-1)").due("drops(12)", 12).bad("drops(12)")
                    .due("drops(0)", 11);
        });
        says("Returns the number of points then;", () -> new Run().then("points(13)").due("drops(5)", 12)
                .due("drops(5)", 11).due("told(4)", 11).then("points(2)").due("drops(1)", 1));
        says("BAD if there is no such point;", () -> {
            Run.of("1 / 23").bad("drops(3)", "drops(-1)", "drops(13)", "drops(MIN)", "drops(MAX)");
            Run.of("").bad("drops(1)", "drops(-1)", "drops(MAX)");
        });
        says("NO if there is only one point.", () -> {
            Run.of("").no("drops(0)");
            Run.of("1").due("drops(0)", 1).no("drops(0)");
        });
    }

    private static void fuses() {
        at("Promise 7");
        says("Applies a good fusion to the table.", () -> {
            String[] fused = {"1 / 11 / 111 / 1111 / 11111 / 111111 / 1111111", "1 / 11 / 111 / 1112 / 11211 / 121111 / 2111111",
                "1 / 12 / 211 / 1221 / 21121 / 211212 / 1221211", "1 / 12 / 211 / 1223 / 21321 / 231212 / 3221211"};
            // 111, 112, 121 and 123, which changes nothing
            for (int k = 0; k < fused.length; k++) {
                Run.kind(1, 3, 2).then("fuses(" + k + ")").shows(fused[k]);
            }
            // the relations 1 and 2 of five points: only 11 makes a scheme of them
            Run.busy().then("fuses(0)").shows("1 / 11 / 111 / 1111").due("verdict(0)", 0);
        });
        says("- `k`: number of the good fusion", () -> Run.kind(1, 3, 2).due("fusions(NONE)", 4).due("fuses(3)", 3)
                .due("fuses(0)", 1).due("fuses(0)", 1));
        says("Returns l then;", () -> {
            // L, as told(5) tells it
            for (int k = 0; k < 4; k++) {
                Run.kind(1, 3, 2).due("fuses(" + k + ")", new int[] {1, 2, 2, 3}[k]).due("told(5)", new int[] {1, 2, 2, 3}[k]);
            }
            Run.kind(5, 11, 5).due("fuses(1)", 5).due("fuses(0)", 1);
            // 1232 is number 4 where relation 3 does not occur
            Run.of("4 / 11 / 112").due("fuses(4)", 2).shows("2 / 11 / 112");
        });
        says("BAD if k is negative;", () -> {
            Run.kind(1, 3, 2).bad("fuses(-1)", "fuses(-2)", "fuses(MIN)");
            Run.of("").bad("fuses(-1)");
        });
        says("NO if there are not so many good fusions.", () -> {
            Run.kind(1, 3, 2).no("fuses(4)", "fuses(52)", "fuses(MAX)");
            Run.busy().no("fuses(1)").due("fuses(0)", 1).no("fuses(1)");
            Run.of("").no("fuses(0)", "fuses(1)");
        });
    }

    private static void sort() {
        at("Promise 8");
        says("Returns the relation of two points.", () -> Run.of("1 / 23 / 451").due("sort(0, 1)", 1).due("sort(0, 2)", 2)
                .due("sort(1, 2)", 3).due("sort(0, 3)", 4).due("sort(1, 3)", 5).due("sort(3, 2)", 1).due("sort(3, 1)", 5));
        says("- `x`: number of a point", () -> {
            Run.of("2 / 23").due("sort(0, 1)", 2).due("sort(2, 1)", 3).bad("sort(-1, 1)", "sort(3, 1)", "sort(MIN, 1)",
                    "sort(MAX, 1)", "sort(13, 1)");
        });
        says("- `y`: number of a point", () -> {
            Run.of("2 / 23").due("sort(1, 0)", 2).due("sort(1, 2)", 3).bad("sort(1, -1)", "sort(1, 3)", "sort(1, MIN)",
                    "sort(1, MAX)", "sort(1, 13)");
        });
        says("Returns the relation, 0 if x equals y;", () -> {
            Run.of("2 / 23").due("sort(0, 0)", 0).due("sort(2, 2)", 0).due("sort(2, 0)", 2);
            new Run().then("points(13)").due("sort(12, 12)", 0).then("points(1)").due("sort(0, 0)", 0);
        });
        says("BAD if there is no such point.", () -> {
            Run.of("2 / 23").bad("sort(3, 3)", "sort(-1, -1)", "sort(3, 0)", "sort(0, 3)", "sort(MAX, MAX)");
            Run.of("").bad("sort(1, 1)", "sort(0, 1)", "sort(1, 0)");
            // a point that was there before
            Run.of("2 / 23").then("drops(0)").bad("sort(2, 2)", "sort(2, 0)");
        });
    }
}
