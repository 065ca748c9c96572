import java.util.ArrayList;
import java.util.List;

/** ROWS and promises 12 to 17. */
final class RowSentences extends Sentences {
    static void all() {
        rowsOfSchemes();
        figuresOfRows();
        ordersOfSchemes();
        rows();
        row();
        times();
        back();
        cross();
        orders();
    }

    private static List<Run> schemes() {
        return List.of(Run.of(""), Run.of("1"), Run.of(PLANE), Run.of(BITS), Run.kind(0, 6, 0), Run.kind(0, 8, 0),
                Run.kind(1, 3, 2), Run.kind(2, 2, 5), Run.kind(3, 2, 6), Run.kind(4, 2, 3), Run.kind(5, 13, 2),
                Run.kind(1, 1, 13));
    }

    /** All sequences that are rows by the words of the document, the greatest ones first. */
    private static List<int[]> sequences(Run run) {
        int l = (int) run.call("told(5)");
        int[] valencies = new int[l + 1];
        long[][][] p = new long[l + 1][l + 1][l + 1];
        for (int i = 0; i <= l; i++) {
            valencies[i] = (int) run.call("valence(" + i + ")");
            for (int j = 0; j <= l; j++) {
                for (int k = 0; k <= l; k++) {
                    p[i][j][k] = run.call("paths(" + i + ", " + j + ", " + k + ")");
                }
            }
        }
        List<int[]> found = new ArrayList<>();
        int[] v = new int[l + 1];
        v[0] = 1;
        collect(v, 1, valencies, p, found);
        return found;
    }

    private static void collect(int[] v, int i, int[] valencies, long[][][] p, List<int[]> found) {
        if (i == v.length) {
            if (multiplies(v, p)) {
                found.add(v.clone());
            }
            return;
        }
        for (v[i] = valencies[i]; v[i] >= -valencies[i]; v[i]--) {
            collect(v, i + 1, valencies, p, found);
        }
    }

    private static boolean multiplies(int[] v, long[][][] p) {
        for (int i = 0; i < v.length; i++) {
            for (int j = 0; j < v.length; j++) {
                long sum = 0;
                for (int k = 0; k < v.length; k++) {
                    sum += p[i][j][k] * v[k];
                }
                if (sum != (long) v[i] * v[j]) {
                    return false;
                }
            }
        }
        return true;
    }

    /** Each row: v(0) to v(L), then the multiplicity. */
    private static void rowsDue(Run run, int[][] want) {
        int l = want[0].length - 2;
        run.due("told(5)", l).due("rows()", want.length);
        for (int r = 0; r < want.length; r++) {
            for (int i = 0; i <= l; i++) {
                run.due("row(" + r + ", " + i + ")", 100 + want[r][i]);
            }
            run.due("times(" + r + ")", want[r][l + 1]);
        }
        run.no("row(" + want.length + ", 0)", "times(" + want.length + ")");
    }

    private static void rowsOfSchemes() {
        at("ROWS");
        says("The rows of a scheme are the sequences of integers v(0), ..., v(L) with v(0) = 1 such that for all i, j from "
                + "0 to L the product v(i) * v(j) is the sum over k of p(i, j, k) * v(k).", () -> {
            for (Run run : schemes()) {
                List<int[]> found = sequences(run);
                run.due("rows()", found.size());
                for (int r = 0; r < found.size(); r++) {
                    for (int i = 0; i < found.get(r).length; i++) {
                        run.due("row(" + r + ", " + i + ")", 100 + found.get(r)[i]);
                    }
                }
            }
        });
        says("(They are the rational integral characters of the scheme; no v(i) is greater than the valency of i, or less "
                + "than minus this valency.)", () -> {
            // both bounds are reached: 12 of 13 points, 5 and -6 of two heaps of 6
            Run.kind(1, 1, 13).due("row(0, 1)", 112).due("row(1, 1)", 99);
            Run.kind(3, 2, 6).due("row(0, 2)", 106).due("row(1, 1)", 105).due("row(1, 2)", 94);
            Run.of("1").due("row(1, 1)", 99).no("row(2, 1)");
            for (Run run : schemes()) {
                long rows = run.call("rows()");
                long l = run.call("told(5)");
                for (int r = 0; r < rows; r++) {
                    for (int i = 0; i <= l; i++) {
                        long v = run.call("row(" + r + ", " + i + ")") - 100;
                        Due.holds(Math.abs(v) <= run.call("valence(" + i + ")"), "a value beyond the valency");
                    }
                }
            }
        });
        says("The valencies are always a row.", () -> {
            for (Run run : schemes()) {
                long l = run.call("told(5)");
                for (int i = 0; i <= l; i++) {
                    run.due("row(0, " + i + ")", 100 + run.call("valence(" + i + ")"));
                }
                run.due("times(0)", 1);
            }
            // also if they are the only one: two or five of the rows are not of integers
            Run.kind(0, 5, 0).due("rows()", 1).list("row(0, #)", 0, 101, 102, 102).no("row(1, 0)");
            Run.kind(0, 11, 0).due("rows()", 1).list("row(0, #)", 0, 101, 102, 102, 102, 102, 102).no("row(1, 0)");
        });
        says("Rows are numbered from 0, ordered by decreasing v(1), for equal ones by decreasing v(2), and so on.", () -> {
            rowsDue(Run.of(""), new int[][] {{1, 1}});
            rowsDue(Run.kind(1, 3, 2), new int[][] {{1, 3, 3, 1, 1}, {1, 1, -1, -1, 3}, {1, -1, -1, 1, 3},
                {1, -3, 3, -1, 1}});
            // v(1) decides, then v(2), then v(4), as v(3) is v(1) * v(2)
            rowsDue(Run.of(BITS), new int[][] {{1, 1, 1, 1, 2, 2, 1}, {1, 1, 1, 1, -2, -2, 1}, {1, 1, -1, -1, 2, -2, 1},
                {1, 1, -1, -1, -2, 2, 1}, {1, -1, 1, -1, 0, 0, 2}, {1, -1, -1, 1, 0, 0, 2}});
            // with 3 and 4 exchanged v(3) decides
            rowsDue(Run.of(BITS).then("renames(3, 4)"), new int[][] {{1, 1, 1, 2, 1, 2, 1}, {1, 1, 1, -2, 1, -2, 1},
                {1, 1, -1, 2, -1, -2, 1}, {1, 1, -1, -2, -1, 2, 1}, {1, -1, 1, 0, -1, 0, 2}, {1, -1, -1, 0, 1, 0, 2}});
            rowsDue(Run.of(PLANE), new int[][] {{1, 2, 2, 2, 2, 1}, {1, 2, -1, -1, -1, 2}, {1, -1, 2, -1, -1, 2},
                {1, -1, -1, 2, -1, 2}, {1, -1, -1, -1, 2, 2}});
        });
    }

    private static Fraction value(Run run, int r, int i) {
        return Fraction.of(run.call("row(" + r + ", " + i + ")") - 100, 1);
    }

    private static Fraction valency(Run run, int i) {
        return Fraction.of(run.call("valence(" + i + ")"), 1);
    }

    private static void figuresOfRows() {
        says("The multiplicity of a row is n divided by the sum over i of v(i) * v(i) / valency(i);", () -> {
            for (Run run : schemes()) {
                long rows = run.call("rows()");
                long l = run.call("told(5)");
                for (int r = 0; r < rows; r++) {
                    Fraction sum = Fraction.ZERO;
                    for (int i = 0; i <= l; i++) {
                        sum = sum.plus(value(run, r, i).times(value(run, r, i)).over(valency(run, i)));
                    }
                    Fraction due = Fraction.of(run.call("told(4)"), 1).over(sum);
                    run.due("times(" + r + ")", due.half(0));
                }
            }
        });
        says("it is an integer.", () -> {
            Run.of("").due("times(0)", 1);
            Run.kind(1, 1, 13).due("times(0)", 1).due("times(1)", 12);
            Run.kind(2, 2, 5).due("times(1)", 4).due("times(2)", 5);
            // a scheme that is not integral
            Run.kind(0, 8, 0).due("times(0)", 1).due("times(1)", 2).due("times(2)", 1);
        });
        says("The dual value of relation i and row r is multiplicity(r) * v(i) / valency(i), with v of row r.", () -> {
            for (Run run : List.of(Run.of(""), Run.of(PLANE), Run.kind(2, 2, 5), Run.kind(0, 8, 0), Run.kind(3, 2, 6))) {
                long rows = run.call("rows()");
                long l = run.call("told(5)");
                for (int r = 0; r < rows; r++) {
                    for (int i = 0; i <= l; i++) {
                        Fraction m = Fraction.of(run.call("times(" + r + ")"), 1);
                        Fraction due = m.times(value(run, r, i)).over(valency(run, i));
                        run.fraction("back(" + i + ", " + r + ")", due.half(0), due.half(1));
                    }
                }
            }
        });
        says("A scheme is integral if it has L + 1 rows (it never has more).", () -> {
            Run[] integral = {Run.of(""), Run.of("1"), Run.kind(0, 4, 0), Run.kind(1, 3, 2), Run.of(PLANE), Run.of(BITS)};
            for (int l = 0; l < integral.length; l++) {
                integral[l].due("told(5)", l).due("rows()", l + 1).fraction("cross(0, 0, 0)", 1, 1)
                        .no("row(" + (l + 1) + ", 0)").fraction("bound(0)", 1, 1);
            }
            // one of three rows, two of five, three of five, two of six
            Run.kind(0, 5, 0).due("rows()", 1).no("cross(0, 0, 0, 0)", "orders(1, NONE)", "bound(0, 0)", "shadow(1, 0, 0)");
            Run.kind(0, 9, 0).due("rows()", 2).no("cross(0, 0, 0, 0)", "orders(1, NONE)", "bound(0, 0)", "shadow(1, 0, 0)");
            Run.kind(0, 8, 0).due("rows()", 3).no("cross(0, 0, 0, 0)", "orders(1, NONE)", "bound(0, 0)", "shadow(1, 0, 0)");
            Run.kind(0, 10, 0).due("rows()", 2).no("cross(0, 0, 0, 0)", "orders(1, NONE)", "bound(0, 0)",
                    "shadow(1, 0, 0)");
        });
        says("The Krein parameter of rows r, s, t with the values u, v, w is multiplicity(r) * multiplicity(s) / n times the "
                + "sum over i of u(i) * v(i) * w(i) / (valency(i) * valency(i)).", () -> {
            for (int[] k : new int[][] {{2, 2, 5}, {3, 2, 6}, {1, 1, 13}, {1, 2, 3}}) {
                Run run = Run.kind(k[0], k[1], k[2]);
                int l = (int) run.call("told(5)");
                for (int r = 0; r <= l; r++) {
                    for (int s = 0; s <= l; s++) {
                        Krein krein = new Krein(run, r, s);
                        for (int t = 0; t <= l; t++) {
                            Fraction due = krein.of(t);
                            run.fraction("cross(" + r + ", " + s + ", " + t + ")", due.half(0), due.half(1));
                        }
                    }
                    // a run has 512 calls
                    run = Run.kind(k[0], k[1], k[2]);
                }
            }
        });
    }

    /** The Krein parameters of two rows, from what the calls for rows and valencies answer. */
    private static final class Krein {
        private final Run run;
        private final List<Fraction> parts = new ArrayList<>();

        Krein(Run run, int r, int s) {
            this.run = run;
            Fraction n = Fraction.of(run.call("told(4)"), 1);
            Fraction m = Fraction.of(run.call("times(" + r + ")") * run.call("times(" + s + ")"), 1);
            long l = run.call("told(5)");
            for (int i = 0; i <= l; i++) {
                Fraction k = valency(run, i);
                parts.add(m.over(n).times(value(run, r, i)).times(value(run, s, i)).over(k.times(k)));
            }
        }

        Fraction of(int t) {
            Fraction sum = Fraction.ZERO;
            for (int i = 0; i < parts.size(); i++) {
                sum = sum.plus(parts.get(i).times(value(run, t, i)));
            }
            return sum;
        }
    }

    private static Run listed(Run run, int which, long... due) {
        String call = "orders(" + which + ", #)";
        run.due("orders(" + which + ", NONE)", due.length).list(call, 0, due);
        return run.quiet(call.replace("#", Integer.toString(due.length)), -5);
    }

    private static void ordersOfSchemes() {
        says("A step order of a scheme is an order o(1), ..., o(L) of the relations 1 to L such that, with o(0) = 0, for all "
                + "a, b from 0 to L the intersection number p(o(1), o(a), o(b)) is 0 if a and b differ by 2 or more, and "
                + "greater than 0 if they differ by 1.", () -> {
            listed(Run.of("1"), 0, 1);
            listed(Run.kind(2, 2, 5), 0, 12, 21);
            listed(Run.kind(1, 3, 2), 0, 123);
            listed(Run.kind(0, 8, 0), 0, 1234, 3214);
            listed(Run.kind(0, 10, 0), 0, 12345, 34125);
            // two steps in a heap do not leave it, so p(1, 1, 2) is 0, though 1 and 2 differ by 1
            listed(Run.kind(3, 2, 3).due("paths(1, 1, 2)", 0), 0, 21);
            // relation 3 of this grid is a ring of six points
            listed(Run.kind(4, 2, 3), 0, 312);
            // 1, 2, 3 would be one if p(1, 1, 3) were 0
            listed(Run.kind(5, 13, 3).due("paths(1, 1, 2)", 1).due("paths(1, 2, 3)", 1).due("paths(1, 1, 3)", 2), 0);
            listed(Run.of(PLANE), 0);
            listed(Run.of(BITS), 0);
        });
        says("A row order of an integral scheme is an order of the rows 1 to L with the same property of the Krein "
                + "parameters of o(1), o(a), o(b).", () -> {
            listed(Run.of("1"), 1, 1);
            listed(Run.kind(2, 2, 5), 1, 12, 21);
            listed(Run.kind(1, 3, 2), 1, 123);
            listed(Run.kind(3, 2, 3).fraction("cross(1, 1, 2)", 0, 1), 1, 21);
            // not the step order, which is 312
            listed(Run.kind(4, 2, 3), 1, 321);
            // 3, 1, 2 would be one if the Krein parameter of 3, 3, 2 were 0
            listed(Run.kind(4, 3, 3).fraction("cross(3, 3, 1)", 2, 1).fraction("cross(3, 1, 2)", 2, 1)
                    .fraction("cross(3, 3, 2)", 2, 1), 1);
            listed(Run.of(PLANE), 1);
            listed(Run.of(BITS), 1);
        });
        says("An order is returned as a decimal number with the digits o(1), ..., o(L).", () ->
                listed(Run.kind(0, 11, 0), 0, 12345, 24531, 35214, 43152, 51423));
        says("If L is 0, there is exactly one order, the number 0.", () -> {
            listed(Run.of(""), 0, 0);
            listed(Run.of(""), 1, 0);
            listed(Run.of("5").then("drops(0)"), 0, 0);
        });
    }

    private static void rows() {
        at("Promise 12");
        says("Returns the number of rows.", () -> Run.kind(2, 2, 5).due("rows()", 3).then("points(1)").due("rows()", 1)
                .then("points(2)").due("rows()", 2).then("makes(0, 5, 0)").due("rows()", 1));
        says("Returns the number of rows;", () -> {
            Run.of(BITS).due("rows()", 6);
            Run.kind(0, 11, 0).due("rows()", 1).then("undo()").due("rows()", -3);
        });
        says("NO if the table is not a scheme.", () -> {
            Run.of(PATH).no("rows()");
            Run.of("2").no("rows()");
            Run.kind(1, 3, 2).due("rows()", 4).then("pair(0, 7, 1)").no("rows()").then("undo()").due("rows()", 4);
        });
    }

    private static void row() {
        at("Promise 13");
        says("Returns a value of a row.", () -> Run.kind(2, 2, 5).list("row(1, #)", 0, 101, 101, 98)
                .list("row(2, #)", 0, 101, 98, 101));
        says("- `r`: number of a row", () -> {
            Run.kind(2, 2, 5).due("row(0, 1)", 106).due("row(2, 1)", 98).no("row(3, 1)").bad("row(-1, 1)");
            Run.of("").due("row(0, 0)", 101).no("row(1, 0)").bad("row(-1, 0)");
        });
        says("- `i`: 0 to L", () -> Run.kind(2, 2, 5).due("row(1, 0)", 101).due("row(1, 2)", 98)
                .bad("row(1, -1)", "row(1, 3)"));
        says("Returns 100 plus v(i);", () -> {
            // 0, the greatest and the least value there can be
            Run.kind(3, 2, 6).due("row(2, 2)", 100).due("row(1, 2)", 94);
            Run.kind(1, 1, 13).due("row(0, 1)", 112);
        });
        says("BAD if r is negative or i is out of range;", () -> {
            Run.kind(2, 2, 5).bad("row(-1, 0)", "row(MIN, 0)", "row(0, -1)", "row(0, 3)", "row(0, MIN)", "row(0, MAX)",
                    "row(-1, 3)", "row(3, 3)", "row(MAX, -1)");
            Run.of("").bad("row(0, 1)");
        });
        says("NO if the table is not a scheme, or there is no row r.", () -> {
            Run.of(PATH).no("row(0, 0)", "row(0, 2)", "row(5, 0)");
            Run.of("2").no("row(0, 0)", "row(0, 1)");
            Run.kind(2, 2, 5).no("row(3, 0)", "row(6, 2)", "row(MAX, 0)");
            Run.of(BITS).due("row(5, 5)", 100).no("row(6, 5)");
            // of a scheme that is not integral: less than L + 1 rows
            Run.kind(0, 5, 0).due("row(0, 2)", 102).no("row(1, 2)", "row(2, 2)");
        });
    }

    private static void times() {
        at("Promise 14");
        says("Returns the multiplicity of a row.", () -> Run.kind(4, 3, 4).list("times(#)", 0, 1, 2, 3, 6));
        says("- `r`: number of a row", () -> {
            Run.kind(4, 3, 4).due("times(0)", 1).due("times(3)", 6).no("times(4)").bad("times(-1)");
            Run.of("").due("times(0)", 1).no("times(1)").bad("times(-1)");
        });
        says("Returns the multiplicity;", () -> Run.kind(1, 1, 13).due("times(1)", 12).then("points(2)").due("times(1)", 1));
        says("BAD if r is negative;", () -> {
            Run.kind(2, 2, 5).bad("times(-1)", "times(MIN)");
            Run.of(PATH).bad("times(-1)", "times(MIN)");
        });
        says("NO if the table is not a scheme, or there is no row r.", () -> {
            Run.of(PATH).no("times(0)", "times(9)");
            Run.of("2").no("times(0)");
            Run.kind(2, 2, 5).no("times(3)", "times(6)", "times(MAX)");
            Run.kind(0, 5, 0).due("times(0)", 1).no("times(1)");
        });
    }

    private static Run backBad(Run run, String... calls) {
        for (String call : calls) {
            run.refused(call, -100000, PairSorts.BAD);
        }
        return run;
    }

    private static Run backNo(Run run, String... calls) {
        for (String call : calls) {
            run.refused(call, -100001, PairSorts.NO);
        }
        return run;
    }

    private static void back() {
        at("Promise 15");
        says("Returns a dual value, a fraction.", () -> Run.kind(2, 2, 5).fraction("back(0, 1)", 4, 1)
                .fraction("back(1, 1)", 2, 3).fraction("back(2, 1)", -8, 3).fraction("back(1, 2)", -5, 3));
        says("- `i`: 0 to L", () -> {
            backBad(Run.kind(2, 2, 5).fraction("back(0, 2)", 5, 1).fraction("back(2, 2)", 5, 3), "back(-1, 2, 0)",
                    "back(3, 2, 0)");
            backBad(Run.of("").fraction("back(0, 0)", 1, 1), "back(1, 0, 0)");
        });
        says("- `r`: number of a row", () -> {
            Run run = Run.kind(2, 2, 5).fraction("back(1, 0)", 1, 1).fraction("back(1, 2)", -5, 3);
            backNo(backBad(run, "back(1, -1, 0)"), "back(1, 3, 0)");
        });
        says("- `what`: 0 or 1", () -> backBad(Run.kind(2, 2, 5).due("back(1, 1, 0)", 2).due("back(1, 1, 1)", 3),
                "back(1, 1, -1)", "back(1, 1, 2)"));
        says("Returns the numerator or denominator;", () -> {
            // also where it is -2 or -3, which is no error then
            Run.kind(0, 4, 0).quiet("back(2, 1, 0)", -2).quiet("back(2, 1, 1)", 1);
            Run.of("1 / 11 / 111").quiet("back(1, 1, 0)", -1);
            Run.kind(3, 4, 2).quiet("back(1, 2, 0)", -4);
            Run.kind(3, 3, 2).quiet("back(1, 2, 0)", -3);
            // a scheme need not be integral
            Run.kind(0, 8, 0).fraction("back(2, 1)", -2, 1).fraction("back(1, 1)", 0, 1).fraction("back(4, 1)", 2, 1);
            Run.kind(0, 5, 0).fraction("back(2, 0)", 1, 1);
        });
        says("-100000 if i or what is out of range, or r is negative (counted as BAD);", () -> {
            for (Run run : List.of(Run.kind(2, 2, 5), Run.of(PATH))) {
                backBad(run, "back(-1, 0, 0)", "back(3, 0, 0)", "back(MIN, 0, 0)", "back(MAX, 0, 0)", "back(0, -1, 0)",
                        "back(0, MIN, 1)", "back(0, 0, -1)", "back(0, 0, 2)", "back(0, 0, MIN)", "back(0, 0, MAX)",
                        "back(3, 9, 0)", "back(0, 9, 2)");
            }
        });
        says("-100001 if the table is not a scheme, or there is no row r (counted as NO).", () -> {
            backNo(Run.of(PATH), "back(0, 0, 0)", "back(2, 0, 1)", "back(0, 9, 0)");
            backNo(Run.of("2"), "back(1, 0, 0)");
            backNo(Run.kind(2, 2, 5), "back(0, 3, 0)", "back(2, 6, 1)", "back(0, MAX, 0)");
            backNo(Run.kind(0, 5, 0), "back(0, 1, 0)", "back(2, 2, 0)");
        });
    }

    private static void cross() {
        at("Promise 16");
        says("Returns a Krein parameter, a fraction.", () -> Run.kind(2, 2, 5).fraction("cross(1, 1, 1)", 2, 9)
                .fraction("cross(1, 1, 2)", 20, 9).fraction("cross(1, 2, 1)", 25, 9).fraction("cross(2, 1, 1)", 25, 9)
                .fraction("cross(1, 2, 2)", 16, 9));
        says("- `r`: number of a row", () -> Run.kind(2, 2, 5).fraction("cross(0, 1, 1)", 1, 1)
                .fraction("cross(2, 1, 1)", 25, 9).bad("cross(-1, 1, 1, 0)", "cross(MIN, 1, 1, 0)")
                .no("cross(3, 1, 1, 0)", "cross(MAX, 1, 1, 0)"));
        says("- `s`: number of a row", () -> Run.kind(2, 2, 5).fraction("cross(1, 0, 1)", 1, 1)
                .fraction("cross(1, 2, 1)", 25, 9).bad("cross(1, -1, 1, 0)", "cross(1, MIN, 1, 0)")
                .no("cross(1, 3, 1, 0)", "cross(1, MAX, 1, 0)"));
        says("- `t`: number of a row", () -> Run.kind(2, 2, 5).fraction("cross(1, 1, 0)", 4, 1)
                .fraction("cross(1, 1, 2)", 20, 9).bad("cross(1, 1, -1, 0)", "cross(1, 1, MIN, 0)")
                .no("cross(1, 1, 3, 0)", "cross(1, 1, MAX, 0)"));
        says("- `what`: 0 or 1", () -> Run.kind(2, 2, 5).due("cross(1, 1, 1, 0)", 2).due("cross(1, 1, 1, 1)", 9)
                .bad("cross(1, 1, 1, -1)", "cross(1, 1, 1, 2)", "cross(1, 1, 1, MIN)", "cross(1, 1, 1, MAX)"));
        says("Returns the numerator or denominator;", () -> {
            Run.of("").fraction("cross(0, 0, 0)", 1, 1);
            Run.kind(1, 1, 13).fraction("cross(1, 1, 0)", 12, 1).fraction("cross(1, 1, 1)", 11, 1)
                    .fraction("cross(0, 1, 0)", 0, 1);
            Run.of(BITS).fraction("cross(5, 5, 0)", 2, 1).fraction("cross(5, 5, 3)", 0, 1);
        });
        says("BAD if r, s or t is negative, or what is out of range;", () -> {
            for (Run run : List.of(Run.kind(2, 2, 5), Run.kind(0, 5, 0), Run.of(PATH))) {
                run.bad("cross(-1, 0, 0, 0)", "cross(0, -1, 0, 0)", "cross(0, 0, -1, 0)", "cross(0, 0, 0, -1)",
                        "cross(0, 0, 0, 2)", "cross(9, 9, -1, 0)", "cross(9, 9, 9, 2)");
            }
        });
        says("NO if the table is not an integral scheme, or there is no such row.", () -> {
            Run.of(PATH).no("cross(0, 0, 0, 0)", "cross(9, 9, 9, 1)");
            Run.of("2").no("cross(0, 0, 0, 0)");
            Run.kind(0, 5, 0).no("cross(0, 0, 0, 0)", "cross(0, 0, 0, 1)", "cross(1, 0, 0, 0)");
            Run.kind(0, 8, 0).no("cross(0, 0, 0, 0)", "cross(2, 2, 2, 0)");
            Run.of("").no("cross(1, 0, 0, 0)", "cross(0, 1, 0, 0)", "cross(0, 0, 1, 0)");
            Run.of(BITS).no("cross(6, 0, 0, 0)", "cross(0, 6, 0, 0)", "cross(0, 0, 6, 0)");
        });
    }

    private static void orders() {
        at("Promise 17");
        says("Returns the step orders or the row orders, in increasing order.", () -> {
            listed(Run.kind(0, 7, 0), 0, 123, 231, 312);
            listed(Run.kind(0, 9, 0), 0, 1234, 2431, 4132);
            listed(Run.kind(1, 2, 3), 1, 12, 21);
        });
        says("- `which`: 0: step orders; 1: row orders", () -> {
            Run.kind(4, 2, 3).due("orders(0, 0)", 312).due("orders(1, 0)", 321).due("orders(0, 0)", 312)
                    .bad("orders(-1, 0)", "orders(2, 0)");
        });
        says("- `k`: NONE for their number, otherwise an index", () -> Run.kind(0, 7, 0).due("orders(0, NONE)", 3)
                .due("orders(0, 0)", 123).due("orders(0, 2)", 312).quiet("orders(0, 3)", -5).bad("orders(0, -2)"));
        says("Returns the number of orders, or the order;", () -> {
            // those of the table as it is, and none of the tables before it
            listed(listed(listed(Run.kind(0, 7, 0), 0, 123, 231, 312).then("makes(0, 8, 0)"), 0, 1234, 3214)
                    .then("undo()"), 0, 123, 231, 312);
            Run rows = listed(listed(Run.kind(2, 2, 5), 1, 12, 21).then("makes(4, 2, 3)"), 1, 321);
            listed(listed(rows.then("points(2)"), 1, 1).then("points(1)"), 1, 0);
            Run.of(PLANE).due("orders(0, NONE)", 0).due("orders(1, NONE)", 0).then("points(2)").due("orders(0, NONE)", 1)
                    .due("orders(1, 0)", 1);
        });
        says("-5 if there are not so many;", () -> {
            Run.of(PLANE).quiet("orders(0, 0)", -5).quiet("orders(1, 0)", -5);
            Run.kind(1, 3, 2).quiet("orders(0, 1)", -5).quiet("orders(1, 1)", -5).quiet("orders(0, 120)", -5)
                    .quiet("orders(0, MAX)", -5).quiet("orders(1, MAX)", -5);
            Run.of("").quiet("orders(0, 1)", -5).quiet("orders(1, 1)", -5);
        });
        says("BAD if which is out of range, or k is less than -1;", () -> {
            for (Run run : List.of(Run.kind(1, 3, 2), Run.kind(0, 5, 0), Run.of(PATH))) {
                run.bad("orders(-1, NONE)", "orders(2, NONE)", "orders(MIN, 0)", "orders(MAX, 0)", "orders(0, -2)",
                        "orders(1, -2)", "orders(0, MIN)", "orders(1, MIN)", "orders(2, 99)");
            }
        });
        says("NO if the table is not a scheme, and for row orders if it is not integral.", () -> {
            Run.of(PATH).no("orders(0, NONE)", "orders(0, 0)", "orders(1, NONE)", "orders(1, 0)", "orders(0, MAX)");
            Run.of("2").no("orders(0, NONE)", "orders(1, NONE)");
            Run.kind(0, 5, 0).due("orders(0, NONE)", 2).no("orders(1, NONE)", "orders(1, 0)", "orders(1, MAX)");
            Run.kind(0, 8, 0).due("orders(0, 1)", 3214).no("orders(1, NONE)", "orders(1, 0)");
        });
    }
}
