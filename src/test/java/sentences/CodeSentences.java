import java.util.List;

/** FUSIONS, CODES and promises 18 to 22. */
final class CodeSentences extends Sentences {
    /** Twelve points with five relations, of which 1, 2 and 3 have a bound of fifths. */
    private static final String TWELVE = "1 / 22 / 221 / 3422 / 43221 / 553422 / 5543221 / 34553422 / 435543221"
            + " / 2234553422 / 22435543221";

    static void all() {
        theFusions();
        theCodes();
        fusions();
        spread();
        shadow();
        bound();
        most();
    }

    private static Run listed(Run run, long... due) {
        run.due("fusions(NONE)", due.length).list("fusions(#)", 0, due);
        return run.quiet("fusions(" + due.length + ")", -5);
    }

    private static void theFusions() {
        at("FUSIONS");
        says("A fusion of a table with L at least 1 is a number with L digits, the first of which is 1, and each other one of "
                + "which is at least 1 and at most 1 greater than the greatest digit before it.", () -> {
            listed(Run.of("1"), 1);
            listed(Run.of("2"), 11);
            // all fusions with four digits are good here
            listed(Run.of(PLANE), 1111, 1112, 1121, 1122, 1123, 1211, 1212, 1213, 1221, 1222, 1223, 1231, 1232, 1233,
                    1234);
            // all with five digits, the last of which is 1
            listed(Run.of("5"), 11111, 11121, 11211, 11221, 11231, 12111, 12121, 12131, 12211, 12221, 12231, 12311,
                    12321, 12331, 12341);
            listed(Run.of(BITS), 11111, 11122, 11211, 11233, 12111, 12133, 12212, 12221, 12222, 12223, 12232, 12233,
                    12234, 12312, 12313, 12321, 12331, 12344, 12345);
        });
        says("It changes each relation i to digit number i (the first digit is number 1).", () -> {
            // 112, 121 and 122 of 1, 2 and 3 of a square
            Run.kind(4, 2, 2).then("fuses(1)").shows("1 / 12 / 211");
            Run.kind(4, 2, 2).then("fuses(2)").shows("1 / 21 / 121");
            Run.kind(4, 2, 2).then("fuses(3)").shows("1 / 22 / 221");
            // 12341 of relation 5; 12133 of five relations
            Run.of("5").then("fuses(14)").shows("1");
            Run.of(BITS).due("fusions(5)", 12133).then("fuses(5)").shows("1 / 21 / 121 / 3333 / 33331 / 333321 / 3333121");
        });
        says("It is good if the table is a scheme then.", () -> {
            listed(Run.of(PATH), 11);
            // 112 would leave relation 1 missing, 122 and 123 too
            listed(Run.of("3"), 111, 121);
            listed(Run.of("4 / 11 / 112"), 1111, 1121, 1212, 1222, 1232);
            // the cube has no scheme of 122: words of even distance are two heaps, but 2 and 3 are not alike
            listed(Run.kind(1, 3, 2), 111, 112, 121, 123);
            listed(Run.kind(5, 11, 5), 11111, 12345);
        });
        says("Good fusions are numbered from 0, in increasing order.", () -> {
            listed(Run.kind(4, 3, 4), 111, 121, 122, 123);
            Run.kind(4, 3, 4).due("fuses(0)", 1);
            Run.kind(4, 3, 4).due("fuses(3)", 3).shows(
                    "1 / 11 / 111 / 2333 / 32331 / 332311 / 3332111 / 23332333 / 323332331 / 3323332311 / 33323332111");
        });
        says("If L is 0, there are no fusions.", () -> {
            listed(Run.of(""));
            Run.of("").due("fusions(NONE)", 0).quiet("fusions(0)", -5).no("fuses(0)").bad("fuses(-1)");
            Run.of("5").due("fusions(NONE)", 15).then("drops(1)").due("fusions(NONE)", 0).quiet("fusions(0)", -5);
        });
    }

    private static void theCodes() {
        at("CODES");
        says("A code is a set of one or more points as a bit mask (bit x for point x).", () -> {
            // point 0 has relation 2 to 1 and 3 to 2; points 1 and 2 have 1
            Run.of("2 / 31").fraction("spread(3, 2)", 1, 1).fraction("spread(5, 3)", 1, 1).fraction("spread(6, 1)", 1, 1)
                    .fraction("spread(1, 0)", 1, 1).fraction("spread(4, 0)", 1, 1).bad("spread(0, 0, 0)", "spread(8, 0, 0)",
                    "spread(9, 0, 0)", "spread(MIN, 0, 0)", "spread(-1, 0, 0)");
            Run.busy().then("points(13)", "pair(12, 0, 2)").fraction("spread(4097, 2)", 1, 1)
                    .fraction("spread(8191, 2)", 2, 13).fraction("spread(4096, 0)", 1, 1).bad("spread(8192, 0, 0)",
                    "spread(16383, 0, 0)");
            Run.of("").fraction("spread(1, 0)", 1, 1).bad("spread(2, 0, 0)", "spread(0, 0, 0)", "spread(3, 0, 0)");
        });
        says("The distribution of a code at relation i is the number of pairs of points of the code that have the relation i, "
                + "divided by the number of points of the code.", () -> {
            // 0 - 1 - 2 - 3: three pairs of neighbours, each in both directions
            Run.of("1 / 21 / 221").fraction("spread(15, 0)", 1, 1).fraction("spread(15, 1)", 3, 2)
                    .fraction("spread(15, 2)", 3, 2).fraction("spread(7, 1)", 4, 3).fraction("spread(7, 2)", 2, 3)
                    .fraction("spread(9, 1)", 0, 1).fraction("spread(9, 2)", 1, 1).fraction("spread(8, 1)", 0, 1);
        });
        says("The transform of a code at row r is the sum over i of the distribution at i times the dual value of i and r.",
                () -> {
            for (Run run : List.of(Run.kind(2, 2, 5), Run.of(PLANE), Run.of(""))) {
                int l = (int) run.call("told(5)");
                int all = (1 << run.call("told(4)")) - 1;
                for (int code : new int[] {1, all, all & 15, all & 0x155}) {
                    for (int r = 0; r <= Math.min(l, 2); r++) {
                        Fraction sum = Fraction.ZERO;
                        for (int i = 0; i <= l; i++) {
                            Fraction a = asked(run, "spread(" + code + ", " + i + ", ");
                            sum = sum.plus(a.times(asked(run, "back(" + i + ", " + r + ", ")));
                        }
                        run.fraction("shadow(" + code + ", " + r + ")", sum.half(0), sum.half(1));
                    }
                }
            }
        });
        says("For a set of allowed relations (bits 1 to L), the bound is the greatest possible sum of real numbers a(0), ..., "
                + "a(L) with a(0) = 1, a(i) at least 0 for allowed i and 0 for other i > 0, such that for each row r the sum "
                + "over i of a(i) times the dual value of i and r is at least 0.", CodeSentences::bounds);
    }

    private static void bounds() {
        // nothing allowed: a(0) alone; everything: the valencies, whose sum is n
        int[][] kinds = {{0, 4, 0}, {0, 6, 0}, {1, 3, 2}, {2, 2, 5}, {3, 4, 3}, {4, 3, 4}, {1, 1, 13}, {3, 1, 1}};
        for (int[] k : kinds) {
            Run run = Run.kind(k[0], k[1], k[2]);
            long all = (2L << run.call("told(5)")) - 2;
            run.fraction("bound(0)", 1, 1).fraction("bound(" + all + ")", run.call("told(4)"), 1);
        }
        // one relation alone: 1 - valency / least value, so 1 + 3 / 2 and 1 + 6 / 2
        Run.kind(2, 2, 5).fraction("bound(2)", 4, 1).fraction("bound(4)", 5, 2);
        long[] cube = {1, 2, 4, 4, 2, 2, 4, 8};
        Run words = Run.kind(1, 3, 2);
        for (int i = 0; i < cube.length; i++) {
            words.fraction("bound(" + 2 * i + ")", cube[i], 1);
        }
        // a(3) = 1 and a(2) = 0 give 2 for allowed 3 alone; 24 / 5 is no code's size, and no integer
        Run.of(TWELVE).fraction("bound(32)", 2, 1).fraction("bound(14)", 24, 5).fraction("bound(48)", 5, 2)
                .fraction("bound(62)", 12, 1).fraction("bound(6)", 4, 1).fraction("bound(8)", 3, 1)
                .fraction("bound(12)", 3, 1).fraction("bound(10)", 3, 1);
        // three bits again: corners in which more conditions meet than there are numbers
        Run bits = Run.of("3 / 32 / 233 / 3143 / 13343 / 433132 / 3413233");
        long[] due = {1, 2, 2, 2, 2, 4, 4, 4, 2, 2, 2, 4, 4, 4, 4, 8};
        for (int i = 0; i < due.length; i++) {
            bits.fraction("bound(" + 2 * i + ")", due[i], 1);
        }
    }

    private static Fraction asked(Run run, String call) {
        return Fraction.of(run.call(call + "0)"), run.call(call + "1)"));
    }

    private static void fusions() {
        at("Promise 18");
        says("Returns the good fusions, whether the table is a scheme or not.", () -> {
            listed(Run.kind(2, 2, 5), 11, 12);
            listed(Run.of(PATH), 11);
            listed(Run.of("3"), 111, 121);
            // five points with one pair of relation 2, and then none
            listed(Run.busy(), 11).then("pair(1, 4, 1)").due("fusions(0)", 1);
        });
        says("- `k`: NONE for their number, otherwise an index", () -> Run.kind(1, 3, 2).due("fusions(NONE)", 4)
                .due("fusions(0)", 111).due("fusions(3)", 123).quiet("fusions(4)", -5).bad("fusions(-2)"));
        says("Returns the number of good fusions, or the fusion;", () -> Run.of(BITS).due("fusions(NONE)", 19)
                .due("fusions(18)", 12345).then("points(3)").due("fusions(NONE)", 1).then("undo()")
                .due("fusions(NONE)", 19));
        says("-5 if there are not so many;", () -> {
            Run.of(PATH).quiet("fusions(1)", -5).quiet("fusions(2)", -5).quiet("fusions(MAX)", -5);
            Run.of(PLANE).due("fusions(14)", 1234).quiet("fusions(15)", -5).quiet("fusions(52)", -5);
            Run.of("").quiet("fusions(0)", -5).quiet("fusions(MAX)", -5);
        });
        says("BAD if k is less than -1.", () -> {
            Run.kind(1, 3, 2).bad("fusions(-2)", "fusions(-5)", "fusions(MIN)");
            Run.of("").bad("fusions(-2)");
            Run.of(PATH).bad("fusions(-2)");
        });
    }

    private static void spread() {
        at("Promise 19");
        says("Returns the distribution of a code at a relation, a fraction.", () -> Run.kind(2, 2, 5)
                .fraction("spread(15, 1)", 5, 2).fraction("spread(15, 2)", 1, 2).fraction("spread(15, 0)", 1, 1)
                .then("points(4)").fraction("spread(15, 1)", 3, 1));
        says("- `code`: the code", () -> Run.kind(2, 2, 5).fraction("spread(1, 0)", 1, 1).fraction("spread(1023, 1)", 6, 1)
                .bad("spread(0, 0, 0)", "spread(1024, 0, 0)"));
        says("- `i`: 0 to L", () -> Run.kind(2, 2, 5).fraction("spread(3, 0)", 1, 1).fraction("spread(33, 2)", 1, 1)
                .bad("spread(3, -1, 0)", "spread(3, 3, 0)", "spread(3, MIN, 0)", "spread(3, MAX, 0)"));
        says("- `what`: 0 or 1", () -> Run.kind(2, 2, 5).due("spread(7, 1, 0)", 2).due("spread(7, 1, 1)", 1)
                .bad("spread(7, 1, -1)", "spread(7, 1, 2)", "spread(7, 1, MIN)", "spread(7, 1, MAX)"));
        says("Returns the numerator or denominator;", () -> {
            Run.of("1 / 21 / 221").due("spread(7, 1, 0)", 4).due("spread(7, 1, 1)", 3);
            // a relation that does not occur
            Run.of("3").fraction("spread(3, 1)", 0, 1).fraction("spread(3, 3)", 1, 1);
            Run.busy().then("points(13)").fraction("spread(8191, 1)", 12, 1);
        });
        says("BAD if an argument is out of range, or the code is empty or has a point that does not exist.", () -> {
            Run.of(PATH).bad("spread(0, 0, 0)", "spread(8, 0, 0)", "spread(15, 0, 0)", "spread(-1, 0, 0)",
                    "spread(MIN, 0, 0)", "spread(MAX, 0, 0)", "spread(65536, 0, 0)", "spread(65537, 0, 0)",
                    "spread(1, 3, 0)", "spread(1, -1, 0)", "spread(1, 0, 2)", "spread(1, 0, -1)", "spread(0, 9, 9)");
            Run.of("").bad("spread(1, 1, 0)", "spread(2, 0, 0)", "spread(0, 0, 0)");
            Run.of(PATH).then("drops(2)").bad("spread(4, 0, 0)", "spread(7, 0, 0)").fraction("spread(3, 1)", 1, 1);
        });
    }

    private static void shadow() {
        at("Promise 20");
        says("Returns the transform of a code at a row, a fraction.", () -> Run.kind(2, 2, 5)
                .fraction("shadow(15, 0)", 4, 1).fraction("shadow(15, 1)", 13, 3).fraction("shadow(15, 2)", 5, 3));
        says("- `code`: the code", () -> Run.kind(2, 2, 5).fraction("shadow(1, 1)", 4, 1).fraction("shadow(512, 1)", 4, 1)
                .fraction("shadow(1023, 1)", 0, 1).fraction("shadow(1023, 0)", 10, 1)
                .bad("shadow(0, 1, 0)", "shadow(1024, 1, 0)"));
        says("- `r`: number of a row", () -> Run.kind(2, 2, 5).fraction("shadow(3, 0)", 2, 1).fraction("shadow(3, 2)", 10, 3)
                .bad("shadow(3, -1, 0)").no("shadow(3, 3, 0)"));
        says("- `what`: 0 or 1", () -> Run.kind(2, 2, 5).due("shadow(3, 2, 0)", 10).due("shadow(3, 2, 1)", 3)
                .bad("shadow(3, 2, -1)", "shadow(3, 2, 2)", "shadow(3, 2, MIN)", "shadow(3, 2, MAX)"));
        says("Returns the numerator or denominator;", () -> {
            Run.of("").fraction("shadow(1, 0)", 1, 1);
            Run.kind(1, 1, 13).fraction("shadow(8191, 0)", 13, 1).fraction("shadow(8191, 1)", 0, 1)
                    .fraction("shadow(4096, 1)", 12, 1);
            // words of even weight
            Run.kind(1, 3, 2).fraction("shadow(105, 0)", 4, 1).fraction("shadow(105, 1)", 0, 1)
                    .fraction("shadow(105, 2)", 0, 1).fraction("shadow(105, 3)", 4, 1);
        });
        says("BAD if r is negative, what is out of range, or the code is empty or has a point that does not exist;", () -> {
            for (Run run : List.of(Run.kind(0, 4, 0), Run.kind(0, 5, 0), Run.of(PATH))) {
                run.bad("shadow(1, -1, 0)", "shadow(1, MIN, 0)", "shadow(1, 0, -1)", "shadow(1, 0, 2)", "shadow(0, 0, 0)",
                        "shadow(32, 0, 0)", "shadow(63, 0, 0)", "shadow(-1, 0, 0)", "shadow(MIN, 0, 0)",
                        "shadow(MAX, 0, 0)", "shadow(0, 99, 0)", "shadow(1, 99, 2)");
            }
        });
        says("NO if the table is not an integral scheme, or there is no row r.", () -> {
            Run.of(PATH).no("shadow(1, 0, 0)", "shadow(7, 99, 1)");
            Run.of("2").no("shadow(1, 0, 0)");
            Run.kind(0, 5, 0).no("shadow(1, 0, 0)", "shadow(1, 1, 0)");
            Run.kind(0, 8, 0).no("shadow(1, 0, 0)", "shadow(1, 2, 1)");
            Run.kind(2, 2, 5).no("shadow(1, 3, 0)", "shadow(1, 6, 0)", "shadow(1, MAX, 0)");
            Run.of("").no("shadow(1, 1, 0)");
            Run.of(BITS).fraction("shadow(1, 5)", 2, 1).no("shadow(1, 6, 0)");
        });
    }

    private static void bound() {
        at("Promise 21");
        says("Returns the bound for a set of allowed relations, a fraction.", () -> {
            Run.kind(2, 2, 5).fraction("bound(4)", 5, 2).fraction("bound(2)", 4, 1).fraction("bound(6)", 10, 1);
            Run.kind(4, 3, 4).fraction("bound(2)", 4, 1).fraction("bound(4)", 3, 1).fraction("bound(8)", 3, 1);
        });
        says("- `allowed`: the set, with bits 1 to L only", () -> {
            Run.kind(1, 3, 2).fraction("bound(0)", 1, 1).fraction("bound(14)", 8, 1).fraction("bound(8)", 2, 1)
                    .bad("bound(1, 0)", "bound(16, 0)", "bound(15, 0)", "bound(30, 0)");
            Run.of(BITS).fraction("bound(62)", 8, 1).fraction("bound(32)", 2, 1).bad("bound(64, 0)", "bound(63, 0)");
            Run.of("").fraction("bound(0)", 1, 1).bad("bound(1, 0)", "bound(2, 0)");
        });
        says("- `what`: 0 or 1", () -> Run.kind(2, 2, 5).due("bound(4, 0)", 5).due("bound(4, 1)", 2)
                .bad("bound(4, -1)", "bound(4, 2)", "bound(4, MIN)", "bound(4, MAX)"));
        says("Returns the numerator or denominator;", () -> Run.of(TWELVE).due("bound(14, 1)", 5).due("bound(14, 0)", 24)
                .due("bound(0, 1)", 1).due("bound(14, 0)", 24));
        says("BAD if allowed has another bit, or what is out of range;", () -> {
            for (Run run : List.of(Run.kind(0, 4, 0), Run.kind(0, 5, 0), Run.of(PATH))) {
                run.bad("bound(1, 0)", "bound(3, 0)", "bound(8, 0)", "bound(14, 0)", "bound(-1, 0)", "bound(-2, 0)",
                        "bound(MIN, 0)", "bound(MAX, 0)", "bound(0, -1)", "bound(0, 2)", "bound(8, 2)");
            }
        });
        says("NO if the table is not an integral scheme.", () -> {
            Run.of(PATH).no("bound(0, 0)", "bound(6, 1)");
            Run.of("2").no("bound(0, 0)", "bound(2, 0)", "bound(4, 0)");
            Run.kind(0, 5, 0).no("bound(0, 0)", "bound(6, 0)");
            Run.kind(0, 8, 0).no("bound(0, 0)", "bound(30, 1)");
        });
    }

    private static Run largest(Run run, int allowed, int count, int code) {
        return run.due("most(" + allowed + ", 0)", count).due("most(" + allowed + ", 1)", code);
    }

    private static void most() {
        at("Promise 22");
        says("Finds the largest code in which each two different points have an allowed relation;", () -> {
            largest(largest(largest(Run.of("2 / 21 / 122 / 1111"), 2, 3, 22), 4, 2, 3), 6, 5, 31);
            // nothing allowed: one point, which has no other; everything: all points
            largest(largest(Run.kind(1, 3, 2), 0, 1, 1), 14, 8, 255);
            largest(largest(Run.busy().then("points(13)"), 2, 13, 8191), 0, 1, 1);
            largest(Run.of(""), 0, 1, 1);
            // larger than the code that is found by the smallest points
            largest(Run.of("1 / 22 / 221 / 2211"), 2, 3, 28);
        });
        says("of several the smallest bit mask.", () -> {
            // of four pairs of opposite words 011 and 100; of twelve pairs of neighbours 0 and 1
            largest(largest(Run.kind(1, 3, 2), 8, 2, 24), 2, 2, 3);
            largest(Run.kind(1, 3, 2), 4, 4, 105);
            // 0, 1 and 4 are a smaller set by their first points, but 1, 2 and 3 are a smaller mask
            largest(Run.of("1 / 21 / 211 / 1122"), 2, 3, 14);
            largest(Run.kind(3, 4, 3), 4, 4, 585);
            largest(Run.kind(2, 2, 5), 4, 2, 12);
        });
        says("The table need not be a scheme.", () -> {
            largest(largest(Run.of(PATH), 2, 2, 3), 4, 2, 5);
            largest(largest(Run.of("3"), 2, 1, 1), 8, 2, 3);
            largest(Run.kind(0, 5, 0), 2, 2, 3);
        });
        says("- `allowed`: the set, with bits 1 to L only", () -> {
            Run.kind(1, 3, 2).due("most(0, 0)", 1).due("most(14, 0)", 8).bad("most(1, 0)", "most(16, 0)", "most(15, 0)",
                    "most(30, 0)");
            Run.of("5").due("most(62, 0)", 2).due("most(32, 0)", 2).due("most(30, 0)", 1).bad("most(64, 0)", "most(63, 0)");
            Run.of("").due("most(0, 0)", 1).bad("most(1, 0)", "most(2, 0)");
        });
        says("- `what`: 0: the number of its points; 1: the code", () -> Run.kind(1, 3, 2).due("most(4, 0)", 4)
                .due("most(4, 1)", 105).due("most(4, 0)", 4).bad("most(4, -1)", "most(4, 2)"));
        says("Returns the answer;", () -> Run.kind(4, 3, 4).due("most(8, 0)", 3).due("most(8, 1)", 292).then("points(2)")
                .due("most(2, 1)", 3).due("most(2, 0)", 2));
        says("BAD if allowed has another bit, or what is out of range.", () -> {
            for (Run run : List.of(Run.kind(0, 4, 0), Run.of(PATH))) {
                run.bad("most(1, 0)", "most(3, 0)", "most(8, 0)", "most(14, 0)", "most(-1, 0)", "most(-2, 0)",
                        "most(MIN, 0)", "most(MAX, 0)", "most(0, -1)", "most(0, 2)", "most(0, MIN)", "most(0, MAX)",
                        "most(8, 2)");
            }
        });
    }
}
