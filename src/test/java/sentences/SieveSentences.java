/** Promises 23 and 24. */
final class SieveSentences extends Sentences {
    static void all() {
        sieveConditions();
        sieveArguments();
        sieved();
    }

    private static Run sifted(int due, int[]... parameters) {
        Run run = Run.busy();
        for (int[] p : parameters) {
            run.quiet("sieve(" + p[0] + ", " + p[1] + ", " + p[2] + ", " + p[3] + ")", due);
        }
        return run;
    }

    private static int[] graph(int n, int k, int l, int m) {
        return new int[] {n, k, l, m};
    }

    private static void sieveConditions() {
        at("Promise 23");
        says("Tests parameters of a strongly regular graph with n points and degree k, where two adjacent points have l common "
                + "neighbours and two others m.", () -> {
            // the pentagon, Petersen's, Clebsch's, Schlaefli's, Hoffman and Singleton's, Gewirtz', lattices
            sifted(0, graph(5, 2, 0, 1), graph(10, 3, 0, 1), graph(16, 5, 0, 2), graph(27, 16, 10, 8),
                    graph(50, 7, 0, 1), graph(56, 10, 0, 2), graph(9, 4, 1, 2), graph(16, 6, 2, 2));
        });
        says("Let D = (l - m) * (l - m) + 4 * (k - m) and W = 2 * k + (n - 1) * (l - m).", () -> {
            // D is 13 = 1 + 12 and no square, W = 12 - 12; D is 8 = 4 + 4, W = 6 - 12
            sifted(0, graph(13, 6, 2, 3));
            sifted(2, graph(7, 3, 0, 2));
        });
        says("The result is the first of these that applies:", () -> {
            // 1 before 2: D is 5, and W is 4 - 10; before 3: 1 * 0 is not 3 * 1, and f would be 3 / 2
            sifted(1, graph(11, 2, 0, 1), graph(5, 1, 0, 1));
            // 3 before 5: f is 1 / 2, with m = 0; 4 before 5 and before 0
            sifted(3, graph(3, 1, 0, 0));
            sifted(4, graph(28, 9, 0, 4), graph(56, 22, 3, 12));
        });
        says("1: k * (k - l - 1) is not (n - k - 1) * m.", () -> {
            // 6 and 6 * 1; one more and one less of each
            sifted(0, graph(10, 3, 0, 1));
            sifted(1, graph(11, 3, 0, 1), graph(9, 3, 0, 1), graph(10, 4, 0, 1), graph(10, 3, 1, 1), graph(10, 3, 0, 2),
                    graph(10, 3, 0, 0));
            // the least and the greatest of all
            sifted(1, graph(3, 1, 0, 1), graph(60, 58, 57, 58), graph(60, 58, 0, 58), graph(60, 58, 0, 0));
        });
        says("2: D is no square, and W is not 0.", () -> {
            sifted(2, graph(7, 3, 1, 1), graph(17, 4, 0, 1), graph(9, 4, 0, 3), graph(11, 5, 2, 2));
            // D is 9, a square, and W is not 0
            sifted(0, graph(10, 3, 0, 1));
        });
        says("If D is no square, nothing further is tested, and the result is 0.", () -> {
            // there are no graphs for 21, 33 and 57, but W is 0
            sifted(0, graph(5, 2, 0, 1), graph(17, 8, 3, 4), graph(21, 10, 4, 5), graph(33, 16, 7, 8),
                    graph(57, 28, 13, 14));
        });
        says("Otherwise let s be the square root of D, r = (l - m + s) / 2, t = (l - m - s) / 2, f = (n - 1 - W / s) / 2 (W / "
                + "s is an exact fraction), and g = n - 1 - f.", () -> {
            // 15, 7, 3, 3: s = 4 does not divide W = 14; f = (14 - 7 / 2) / 2. 3, 1, 0, 0: f = (2 - 2 / 2) / 2
            sifted(3, graph(15, 7, 3, 3), graph(3, 1, 0, 0));
            // s = 5 divides W = -70: f = (26 + 14) / 2 and g = 6
            sifted(0, graph(27, 10, 1, 5));
        });
        says("3: f is not an integer, or f or g is negative.", () -> {
            // f is 42 / 8, 1 / 2, 1 / 3, 10 / 4, 114 / 4
            sifted(3, graph(15, 7, 3, 3), graph(21, 8, 1, 4), graph(3, 1, 0, 0), graph(4, 2, 1, 0), graph(5, 3, 1, 3),
                    graph(59, 1, 0, 0));
            // an integer: pairs, triples, and all but them
            sifted(0, graph(4, 1, 0, 0), graph(6, 2, 1, 0), graph(60, 1, 0, 0), graph(60, 2, 1, 0), graph(60, 58, 56, 58));
            noneIsNegative();
        });
        says("4: (r + 1) * (k + r + 2 * r * t) is greater than (k + r) * (t + 1) * (t + 1), or (t + 1) * (k + t + 2 * r * t) "
                + "is greater than (k + t) * (r + 1) * (r + 1).", () -> {
            // the first one, by 8, 12, 15, 18; the second one, by 8, 24
            sifted(4, graph(28, 18, 12, 10), graph(21, 16, 12, 12), graph(25, 18, 13, 12), graph(56, 33, 22, 15));
            sifted(4, graph(28, 9, 0, 4), graph(56, 22, 3, 12));
            // both sides are equal: the first ones, the second ones
            sifted(0, graph(16, 10, 6, 6), graph(27, 16, 10, 8));
            sifted(0, graph(16, 5, 0, 2), graph(27, 10, 1, 5));
        });
        says("5: m is neither 0 nor k, and 2 * n is greater than f * (f + 3) or greater than g * (g + 3).", () -> {
            // g is 7, f is 7: 100 is greater than 70
            sifted(5, graph(50, 21, 4, 12), graph(50, 28, 18, 12));
            // g is 6, f is 6: 54 is 6 * 9
            sifted(0, graph(27, 10, 1, 5), graph(27, 16, 10, 8));
            // m is 0, and f is 2; m is k, and g is 2: 120 is greater than 10
            sifted(0, graph(60, 19, 18, 0), graph(60, 40, 20, 40), graph(60, 1, 0, 0), graph(60, 58, 56, 58));
        });
        says("0: none of these.", () -> sifted(0, graph(15, 6, 1, 3), graph(6, 3, 0, 3), graph(40, 12, 2, 4),
                graph(60, 29, 28, 0)));
    }

    /** No parameters that pass the first tests have a negative f or g: so that part of 3 never applies by itself. */
    private static void noneIsNegative() {
        for (int n = 3; n <= 60; n++) {
            for (int k = 1; k <= n - 2; k++) {
                for (int l = 0; l < k; l++) {
                    int m = k * (k - l - 1) / (n - k - 1);
                    long d = (long) (l - m) * (l - m) + 4L * (k - m);
                    long s = Math.round(Math.sqrt(d));
                    boolean passes = m <= k && m * (n - k - 1) == k * (k - l - 1) && s * s == d;
                    if (passes) {
                        long twice = (n - 1) * s - 2 * k - (long) (n - 1) * (l - m);
                        Due.holds(twice >= 0 && twice <= 2 * s * (n - 1), "a negative f or g at " + n + " " + k + " " + l);
                    }
                }
            }
        }
    }

    private static void sieveArguments() {
        says("- `n`: 3 to 60", () -> {
            sifted(3, graph(3, 1, 0, 0));
            sifted(0, graph(60, 1, 0, 0)).bad("sieve(2, 1, 0, 0)", "sieve(61, 1, 0, 0)", "sieve(61, 30, 14, 15)",
                    "sieve(0, 1, 0, 0)", "sieve(-10, 3, 0, 1)", "sieve(MIN, 1, 0, 0)", "sieve(MAX, 1, 0, 0)");
        });
        says("- `k`: 1 to n - 2", () -> {
            sifted(0, graph(10, 1, 0, 0), graph(10, 8, 6, 8)).bad("sieve(10, 0, 0, 0)", "sieve(10, 9, 8, 0)",
                    "sieve(10, 9, 8, 9)", "sieve(10, -1, 0, 0)", "sieve(10, MIN, 0, 0)", "sieve(10, MAX, 0, 0)");
            sifted(1, graph(3, 1, 0, 1)).bad("sieve(3, 2, 0, 0)", "sieve(3, 2, 1, 0)", "sieve(60, 59, 58, 0)");
        });
        says("- `l`: 0 to k - 1", () -> sifted(0, graph(10, 3, 0, 1), graph(12, 3, 2, 0)).bad("sieve(10, 3, -1, 1)",
                "sieve(10, 3, 3, 1)", "sieve(10, 1, 1, 0)", "sieve(10, 3, MIN, 1)", "sieve(10, 3, MAX, 1)",
                "sieve(10, 3, 3, 3)"));
        says("- `m`: 0 to k", () -> sifted(0, graph(4, 1, 0, 0), graph(6, 3, 0, 3)).bad("sieve(10, 3, 0, -1)",
                "sieve(10, 3, 0, 4)", "sieve(10, 3, 0, MIN)", "sieve(10, 3, 0, MAX)", "sieve(6, 3, 0, 4)"));
        says("Returns 0 to 5;", () -> {
            sifted(0, graph(10, 6, 3, 4));
            sifted(1, graph(10, 6, 3, 3));
            sifted(2, graph(10, 6, 4, 2));
            sifted(3, graph(10, 6, 5, 0));
            sifted(4, graph(36, 28, 22, 20));
            sifted(5, graph(50, 28, 18, 12));
        });
        says("BAD if an argument is out of range.", () -> Run.busy().bad("sieve(2, 0, -1, -1)", "sieve(61, 60, 60, 61)",
                "sieve(10, 9, 9, 10)", "sieve(MIN, MIN, MIN, MIN)", "sieve(MAX, MAX, MAX, MAX)", "sieve(10, 3, 5, 0)",
                "sieve(2, 0, 0, 0)"));
    }

    private static Run listed(Run run, int n, long... due) {
        run.due("sieved(" + n + ", NONE)", due.length).list("sieved(" + n + ", #)", 0, due);
        return run.quiet("sieved(" + n + ", " + due.length + ")", -5);
    }

    private static void sieved() {
        at("Promise 24");
        says("Returns the parameters k, l, m for which sieve() with n returns 0, ordered by k, then l, then m.", () -> {
            for (int n = 3; n <= 60; n++) {
                int count = 0;
                for (int k = 1; k <= n - 2; k++) {
                    for (int l = 0; l <= k - 1; l++) {
                        PairSorts x = new PairSorts();
                        for (int m = 0; m <= k; m++) {
                            if (x.sieve(n, k, l, m) == 0) {
                                Due.due("sieved(" + n + ", " + count + ")", new PairSorts().sieved(n, count),
                                        10000 * k + 100 * l + m);
                                count++;
                            }
                        }
                    }
                }
                Due.due("sieved(" + n + ", NONE)", new PairSorts().sieved(n, -1), count);
            }
        });
        says("- `n`: 3 to 60", () -> {
            listed(Run.busy(), 3).bad("sieved(2, NONE)", "sieved(2, 0)");
            listed(Run.busy(), 4, 10000, 20002);
            Run.busy().due("sieved(60, 0)", 10000).bad("sieved(61, NONE)", "sieved(61, 0)");
        });
        says("- `i`: NONE for their number, otherwise an index", () -> Run.busy().due("sieved(10, NONE)", 6)
                .due("sieved(10, 0)", 10000).due("sieved(10, 5)", 80608).quiet("sieved(10, 6)", -5).bad("sieved(10, -2)"));
        says("Returns the number, or 10000 * k + 100 * l + m;", () -> {
            listed(Run.busy(), 6, 10000, 20100, 30003, 40204);
            listed(Run.busy(), 10, 10000, 30001, 40300, 50005, 60304, 80608);
        });
        says("-5 if there are not so many;", () -> {
            Run.busy().quiet("sieved(3, 0)", -5).quiet("sieved(7, 0)", -5).quiet("sieved(5, 1)", -5)
                    .quiet("sieved(60, MAX)", -5).quiet("sieved(3, MAX)", -5);
        });
        says("BAD if n is out of range, or i is less than -1.", () -> Run.busy().bad("sieved(2, NONE)", "sieved(61, NONE)",
                "sieved(0, 0)", "sieved(-3, 0)", "sieved(MIN, 0)", "sieved(MAX, 0)", "sieved(10, -2)", "sieved(10, MIN)",
                "sieved(2, -2)", "sieved(61, 99)", "sieved(3, -5)"));
    }
}
