import java.util.List;

/** FRACTIONS AND STATES, ERRORS and promises 28 to 30. */
final class StateSentences extends Sentences {
    static void all() {
        fractions();
        states();
        errors();
        severalErrors();
        countsOfErrors();
        constants();
        undo();
        told();
        digest();
    }

    private static void fractions() {
        at("FRACTIONS AND STATES");
        says("Fractions are in lowest terms with a positive denominator (0 is 0 / 1);", () -> {
            // 24 / 6 and -10 / 6; 6 / 4; 40 / 12; 20 / 90
            Run.kind(2, 2, 5).fraction("back(0, 1)", 4, 1).fraction("back(1, 2)", -5, 3).fraction("back(2, 1)", -8, 3)
                    .fraction("spread(15, 1)", 5, 2).fraction("spread(15, 2)", 1, 2).fraction("shadow(15, 2)", 5, 3)
                    .fraction("shadow(3, 2)", 10, 3).fraction("cross(1, 1, 1)", 2, 9).fraction("bound(4)", 5, 2)
                    .fraction("bound(6)", 10, 1);
            // 0 / 3 and their like
            Run.kind(3, 2, 3).fraction("back(2, 2)", 0, 1).fraction("cross(1, 1, 2)", 0, 1).fraction("spread(7, 2)", 0, 1)
                    .fraction("shadow(63, 1)", 0, 1).fraction("shadow(63, 2)", 0, 1);
        });
        says("they are returned by two calls, with what 0 for the numerator and 1 for the denominator.", () -> {
            Run.kind(2, 2, 5).due("back(1, 1, 0)", 2).due("back(1, 1, 1)", 3).due("cross(1, 1, 1, 1)", 9)
                    .due("cross(1, 1, 1, 0)", 2).due("spread(15, 1, 1)", 2).due("spread(15, 1, 0)", 5)
                    .due("shadow(15, 1, 0)", 13).due("shadow(15, 1, 1)", 3).due("bound(4, 1)", 2).due("bound(4, 0)", 5);
        });
    }

    private static void states() {
        says("Before each call of points(), pair(), makes(), renames(), drops(), fuses() or reads() that returns no error (or "
                + "fault), the table is kept so that undo() can restore it, also if the call changes nothing.", () -> {
            String[] changes = {"points(7)", "pair(0, 1, 5)", "makes(0, 5, 0)", "renames(1, 2)", "drops(2)", "fuses(0)",
                "reads()"};
            for (String call : changes) {
                kept("2 / 31 / 121", call);
            }
            // these change nothing
            for (String call : new String[] {"points(4)", "pair(0, 1, 1)", "makes(1, 1, 4)", "renames(2, 3)", "fuses(0)"}) {
                kept(FOUR, call);
            }
            new Run().types("f0;r2 3;p0 1 1;n4;").due("reads()", 4).due("told(6)", 1).due("undo()", 0).shows(FOUR);
            // errors and faults keep nothing, nor do queries, undo(), type() and clear()
            Run none = new Run().then("points(14)", "pair(0, 0, 1)", "makes(6, 1, 1)", "renames(1, 1)", "drops(4)",
                    "fuses(1)", "fuses(-1)", "reads()", "type(110)", "reads()", "type(48)", "type(59)", "reads()",
                    "clear()", "sort(0, 1)", "digest()", "verdict(0)", "fusions(0)", "most(2, 0)");
            none.due("told(6)", 0).no("undo()").shows(FOUR);
        });
        says("At most 6 tables are kept;", () -> {
            Run run = new Run();
            for (int n = 1; n <= 13; n++) {
                run.then("points(" + n + ")").due("told(6)", Math.min(n, 6));
            }
            run.list("undo()", 0, 5, 4, 3, 2, 1, 0).no("undo()");
        });
        says("when another one is kept, the oldest is forgotten.", () -> {
            // before the six last calls there were 2 to 7 points, and so forth
            for (int calls = 6; calls <= 13; calls++) {
                Run run = new Run().then("points(1)", "undo()");
                for (int n = 1; n <= calls; n++) {
                    run.then("points(" + n + ")");
                }
                for (int n = calls - 1; n >= calls - 6; n--) {
                    run.due("undo()", n - calls + 6).due("told(4)", n == 0 ? 4 : n);
                }
                run.no("undo()");
            }
            // with one taken back there is room again
            new Run().then("points(1)", "points(2)", "points(3)", "points(4)", "points(5)", "points(6)", "undo()",
                    "points(7)").due("told(6)", 6).due("undo()", 5).due("told(4)", 5).list("undo()", 0, 4, 3, 2, 1, 0)
                    .due("told(4)", 4);
        });
    }

    /** The call keeps this table, and undo() brings it back. */
    private static void kept(String triangle, String call) {
        Run run = new Run().types("n3;p0 1 2;").table(triangle).then("undo()").then("undo()");
        run.table(triangle);
        long before = run.call("told(6)");
        run.then(call).due("told(6)", Math.min(6, before + 1)).due("undo()", Math.min(6, before + 1) - 1).shows(triangle);
    }

    private static void errors() {
        at("ERRORS");
        says("An error is reported by the return value.", () -> {
            Run.busy().due("points(14)", -2).due("fuses(9)", -3);
            new Run().types(" ".repeat(100)).due("type(32)", -4);
            Run.busy().due("back(-1, 0, 0)", -100000).due("back(0, 0, 0)", -100001);
        });
    }

    private static void severalErrors() {
        says("If several errors apply, the first one in the order BAD, NO, FULL is returned.", () -> {
            // BAD and NO
            Run.of("").bad("drops(1)", "drops(-1)", "fuses(-1)");
            Run.kind(0, 5, 0).bad("row(9, 3)", "cross(9, 9, 9, 2)", "cross(-1, 0, 0, 0)", "orders(1, -2)", "orders(2, 0)",
                    "shadow(0, 9, 0)", "shadow(1, -1, 0)", "shadow(1, 9, 2)", "bound(8, 0)", "bound(2, 2)", "times(-1)");
            Run.of(PATH).bad("paths(3, 0, 0)", "paths(0, 3, 0)", "paths(0, 0, 3)", "row(-1, 0)", "row(0, 3)", "times(-1)",
                    "cross(0, 0, 0, 2)", "cross(0, 0, -1, 0)", "orders(0, -2)", "orders(-1, 0)", "shadow(8, 0, 0)",
                    "shadow(0, 0, 0)", "shadow(1, 0, 2)", "bound(1, 0)", "bound(0, -1)");
            Run.of(PATH).refused("back(3, 0, 0)", -100000, PairSorts.BAD).refused("back(0, -1, 0)", -100000, PairSorts.BAD)
                    .refused("back(0, 0, 2)", -100000, PairSorts.BAD);
            Run.of("1 / 11").bad("drops(3)", "fuses(-1)");
            // BAD and FULL
            new Run().types(" ".repeat(100)).bad("type(-1)", "type(128)").full("type(0)");
        });
        says("BAD: an argument is out of range, or names something that does not exist.", () -> {
            Run.of("1 / 11").bad("points(14)", "pair(0, 3, 1)", "pair(0, 0, 1)", "makes(6, 2, 0)", "renames(6, 1)",
                    "drops(3)", "fuses(-1)", "sort(3, 0)", "verdict(6)", "valence(2)", "paths(2, 0, 0)", "row(0, 2)",
                    "times(-1)", "cross(0, 0, 0, 2)", "orders(2, 0)", "fusions(-2)", "spread(8, 0, 0)", "shadow(8, 0, 0)",
                    "bound(4, 0)", "most(4, 0)", "sieve(2, 1, 0, 0)", "sieved(61, 0)", "type(128)", "told(7)");
        });
        says("NO and FULL: as told at the methods.", () -> {
            Run.of("").no("drops(0)", "fuses(0)", "row(1, 0)", "times(1)", "cross(1, 0, 0, 0)", "shadow(1, 1, 0)");
            Run.of(PATH).no("rows()", "orders(0, NONE)", "bound(0, 0)", "paths(0, 0, 0)");
            new Run().no("undo()").types(" ".repeat(100)).full("type(32)");
        });
        says("NONE: there is no value; -5: there is no such index.", () -> {
            Run.of("1").quiet("verdict(1)", -1).quiet("orders(0, 1)", -5).quiet("orders(1, 1)", -5).quiet("fusions(1)", -5)
                    .quiet("sieved(3, 0)", -5);
        });
        says("Both are returned only if there is no error.", () -> {
            // an index that is not there, and an error
            Run.of(PATH).no("orders(0, 99)", "orders(1, 99)").bad("orders(2, 99)", "sieved(61, 99)", "verdict(6)");
            Run.kind(0, 5, 0).no("orders(1, 99)").bad("orders(-1, 99)", "fusions(-2)", "sieved(2, 99)");
        });
    }

    private static void countsOfErrors() {
        says("A call that returns an error changes nothing but the counts of errors, see told();", () -> {
            // tables kept, a text, a scheme whose rows, orders and fusions are known already
            Run run = Run.kind(1, 3, 2).then("digest()", "fusions(NONE)", "orders(1, NONE)");
            run.bad("points(14)", "pair(0, 8, 1)", "makes(0, 12, 0)", "renames(1, 1)", "drops(8)", "fuses(-1)",
                    "sort(8, 0)", "verdict(6)", "valence(4)", "paths(0, 0, 4)", "row(0, 4)", "times(-1)",
                    "cross(-1, 0, 0, 0)", "orders(2, 0)", "fusions(-2)", "spread(256, 0, 0)", "shadow(256, 0, 0)",
                    "bound(16, 0)", "most(16, 0)", "sieve(61, 1, 0, 0)", "sieved(61, 0)", "type(128)", "told(7)");
            run.no("fuses(4)", "row(4, 0)", "times(4)", "cross(4, 0, 0, 0)", "shadow(1, 4, 0)");
            run.refused("back(4, 0, 0)", -100000, PairSorts.BAD).refused("back(0, 4, 0)", -100001, PairSorts.NO);
            run.due("rows()", 4).due("orders(0, 0)", 123).due("fusions(1)", 112).due("told(6)", 3);
            // a full shelf keeps its oldest table
            Run six = new Run().then("points(5)", "points(6)", "points(7)", "points(8)", "points(9)", "points(1)");
            six.bad("points(14)", "drops(1)", "pair(0, 0, 1)", "makes(6, 0, 0)", "renames(0, 1)", "fuses(-1)");
            six.no("drops(0)", "fuses(0)").list("undo()", 0, 5, 4, 3, 2, 1, 0).due("told(4)", 4);
            // a full text keeps its bytes
            new Run().types("n3;" + " ".repeat(97)).full("type(120)").bad("type(128)").due("reads()", 1).due("told(4)", 3);
            new Run().no("undo()").shows(FOUR).due("told(6)", 0);
        });
        says("all calls count there, also queries.", () -> {
            String[] bad = {"points(0)", "pair(0, 0, 1)", "makes(6, 1, 1)", "renames(1, 1)", "drops(4)", "fuses(-1)",
                "sort(4, 0)", "verdict(6)", "valence(2)", "paths(2, 0, 0)", "row(-1, 0)", "times(-1)", "back(2, 0, 0)",
                "cross(-1, 0, 0, 0)", "orders(2, 0)", "fusions(-2)", "spread(0, 0, 0)", "shadow(0, 0, 0)", "bound(1, 0)",
                "most(1, 0)", "sieve(2, 1, 0, 0)", "sieved(2, 0)", "type(128)", "told(7)"};
            Run run = new Run();
            for (int i = 0; i < bad.length; i++) {
                run.then(bad[i]).due("told(0)", i + 1).due("told(1)", 0).due("told(2)", 0);
            }
            String[] no = {"fuses(9)", "rows()", "paths(0, 0, 0)", "row(0, 0)", "times(0)", "back(0, 0, 0)",
                "cross(0, 0, 0, 0)", "orders(0, 0)", "shadow(1, 0, 0)", "bound(0, 0)", "undo()"};
            Run other = new Run().then("pair(0, 1, 2)", "undo()").types("p0 1 2;").then("reads()", "undo()");
            other.then("renames(1, 2)");
            for (int i = 0; i < no.length - 1; i++) {
                other.then(no[i].equals("fuses(9)") ? "fuses(99)" : no[i]).due("told(1)", i + 1).due("told(0)", 0);
            }
            other.then("undo()", "undo()").due("told(1)", no.length).then("points(1)", "drops(0)")
                    .due("told(1)", no.length + 1).due("told(0)", 0).due("told(2)", 0);
            new Run().types(" ".repeat(103)).due("told(2)", 3).due("told(0)", 0).due("told(1)", 0);
        });
    }

    private static void constants() {
        plain("The constants:");
        says("- `NONE = -1, BAD = -2, NO = -3, FULL = -4`: NONE: there is no value; as an argument, as told at the methods. "
                + "The others are error codes.", () -> {
            Due.due("NONE", PairSorts.NONE, -1);
            Due.due("BAD", PairSorts.BAD, -2);
            Due.due("NO", PairSorts.NO, -3);
            Due.due("FULL", PairSorts.FULL, -4);
            Run.of("1").due("verdict(1)", PairSorts.NONE).due("orders(0, -1)", 1).due("fusions(-1)", 1)
                    .due("sieved(4, -1)", 2);
        });
        plain("The constructor and the methods follow, a promise each: the signature, then what it does.");
    }

    private static void undo() {
        at("Promise 28");
        says("Restores the table that was kept last.", () -> {
            new Run().then("pair(0, 1, 2)", "points(13)", "makes(0, 5, 0)", "undo()").due("told(4)", 13).due("told(5)", 1)
                    .then("undo()").shows("2 / 11 / 111").then("undo()").shows(FOUR);
            // what is known of the table is that of the restored one
            Run run = new Run().then("makes(1, 3, 2)", "makes(0, 5, 0)").due("rows()", 1).due("fusions(NONE)", 2)
                    .then("undo()").due("rows()", 4).due("fusions(NONE)", 4).due("verdict(0)", 0).due("orders(0, 0)", 123)
                    .then("undo()").due("rows()", 2).due("orders(1, 0)", 1);
            run.then("pair(0, 1, 2)").due("verdict(0)", 2).then("undo()").due("verdict(0)", 0).shows(FOUR);
            // neither the text nor the counts of errors
            new Run().then("points(3)", "told(9)", "undo()").types("n3;").then("undo()").list("told(#)", 0, 1, 1, 0, 3);
            // undone and changed again
            new Run().then("points(3)", "points(2)", "undo()", "pair(0, 2, 4)").shows("1 / 41").then("undo()")
                    .shows("1 / 11").then("undo()").shows(FOUR);
        });
        says("Returns how many tables are still kept;", () -> {
            new Run().then("points(1)").due("undo()", 0).then("points(1)", "points(1)").due("undo()", 1).due("undo()", 0);
            new Run().then("points(1)", "points(1)", "points(1)", "points(1)", "points(1)", "points(1)", "points(1)")
                    .list("undo()", 0, 5, 4, 3, 2, 1, 0).no("undo()");
        });
        says("NO if none is kept.", () -> {
            new Run().no("undo()", "undo()").then("points(5)", "undo()").no("undo()").shows(FOUR);
        });
    }

    private static void told() {
        at("Promise 29");
        says("Returns a figure.", () -> Run.busy().list("told(#)", 0, 1, 1, 0, 10, 5, 2, 2));
        says("- `what`: 0, 1, 2: how many calls have returned BAD, NO, FULL;", () -> {
            new Run().list("told(#)", 0, 0, 0, 0).then("points(0)", "back(9, 0, 0)", "told(7)", "undo()", "back(0, 9, 0)")
                    .types(" ".repeat(104)).list("told(#)", 0, 3, 2, 4);
            // NONE, -5, faults and errors of commands are none of these
            new Run().then("verdict(1)", "orders(0, 9)", "fusions(9)", "sieved(3, 0)", "reads()").types("n0;")
                    .then("reads()").list("told(#)", 0, 0, 0, 0);
            // nor are values that look like them
            new Run().then("makes(0, 4, 0)").due("back(2, 1, 0)", -2).list("told(#)", 0, 0, 0, 0);
        });
        says("3: the number of bytes of the text;", () -> new Run().due("told(3)", 0).types("n3;").due("told(3)", 3)
                .types(" ".repeat(98)).due("told(3)", 100).then("clear()").due("told(3)", 0));
        says("4: n;", () -> new Run().due("told(4)", 4).then("points(13)").due("told(4)", 13).then("points(1)")
                .due("told(4)", 1).then("undo()", "drops(0)").due("told(4)", 12));
        says("5: L;", () -> new Run().due("told(5)", 1).then("pair(0, 1, 5)").due("told(5)", 5).then("points(1)")
                .due("told(5)", 0));
        says("6: how many tables are kept", () -> new Run().due("told(6)", 0).then("points(4)").due("told(6)", 1)
                .then("undo()").due("told(6)", 0));
        says("Returns the figure;", () -> Run.busy().then("undo()").list("told(#)", 0, 1, 1, 0, 10, 5, 1, 1));
        says("BAD if what is out of range.", () -> {
            Run.busy().bad("told(-1)", "told(7)", "told(MIN)", "told(MAX)");
            // it counts itself, for the next call
            new Run().due("told(7)", -2).due("told(0)", 1).due("told(-1)", -2).due("told(0)", 2);
        });
    }

    private static long hash(long... numbers) {
        long hash = 2347;
        for (long number : numbers) {
            hash = 31 * hash + number;
        }
        return hash;
    }

    private static void digest() {
        at("Promise 30");
        says("Returns a hash.", () -> {
            new Run().quiet("digest()", new PairSorts().digest());
            Due.holds(new Run().call("digest()") != new Run().then("points(5)").call("digest()"), "the same for two tables");
        });
        says("It is 2347 at first; for each of the following numbers, in this order, it becomes 31 times itself plus the number "
                + "(long arithmetic with overflow).", () -> {
            // the least there is: one point, 17 numbers, beyond the range of long already
            new Run().then("points(1)").due("digest()", hash(0, 0, 0, 0, 1, 0, 1, 0, -1, -1, -1, -1, -1, 1, 1, 1));
        });
        says("told(0) to told(6);", () -> {
            // each figure has another value
            new Run().then("points(2)", "pair(0, 1, 5)", "told(7)", "undo()", "undo()", "undo()", "undo()")
                    .types(" ".repeat(103)).then("points(2)", "pair(0, 1, 5)", "pair(0, 1, 5)", "pair(0, 1, 5)")
                    .list("told(#)", 0, 1, 2, 3, 100, 2, 5, 4)
                    .due("digest()", hash(1, 2, 3, 100, 2, 5, 4, 5, 1, 1, -1, -1, -1, -1));
            // the digest counts nothing itself
            new Run().then("digest()", "digest()").list("told(#)", 0, 0, 0, 0, 0, 4, 1, 0);
        });
        says("the relations of the pairs x, y with x less than y, ordered by y and then by x;", () -> {
            Run.of("1 / 23 / 511").then("clear()").due("digest()",
                    hash(1, 1, 0, 0, 4, 5, 6, 1, 2, 3, 5, 1, 1, 1, 4, -1, -1, -1, -1));
        });
        says("verdict(0) to verdict(5);", () -> {
            new Run().then("points(3)", "pair(0, 2, 2)").due("digest()",
                    hash(0, 0, 0, 0, 3, 2, 2, 1, 2, 1, 2, 1, 1, 0, 0, 17));
            new Run().then("points(2)", "pair(0, 1, 3)").due("digest()",
                    hash(0, 0, 0, 0, 2, 3, 2, 3, 1, 1, -1, -1, -1, -1));
        });
        says("and if the table is a scheme: the number of rows;", () -> {
            // one row of three; none is told of what is no scheme
            new Run().then("makes(0, 5, 0)").due("digest()", hash(0, 0, 0, 0, 5, 2, 1, 1, 2, 1, 2, 2, 1, 1, 2, 2, 1,
                    0, -1, -1, -1, -1, -1, 1, 2, 2, 1, 2));
        });
        says("for each row v(1) to v(L) and its multiplicity;", () -> {
            new Run().due("digest()", hash(0, 0, 0, 0, 4, 1, 0, 1, 1, 1, 1, 1, 1, 0, -1, -1, -1, -1, -1,
                    2, 3, 1, -1, 3, 1));
            new Run().then("makes(4, 2, 2)").due("digest()", hash(0, 0, 0, 0, 4, 3, 1, 1, 2, 3, 3, 2, 1,
                    0, -1, -1, -1, -1, -1, 4, 1, 1, 1, 1, 1, -1, -1, 1, -1, 1, -1, 1, -1, -1, 1, 1, 0));
        });
        says("and the number of step orders.", () -> {
            // none, one for one point, three of a ring of 7
            new Run().then("makes(0, 7, 0)").due("digest()", hash(0, 0, 0, 0, 7, 3, 1, 1, 2, 1, 3, 2, 1, 3, 3, 2, 1,
                    2, 3, 3, 2, 1, 1, 2, 3, 3, 2, 1, 0, -1, -1, -1, -1, -1, 1, 2, 2, 2, 1, 3));
        });
        says("Returns the hash.", () -> {
            for (Run run : List.of(new Run(), Run.of(PATH), Run.kind(1, 3, 2))) {
                long first = run.call("digest()");
                run.then("sort(0, 1)", "rows()").then("points(5)", "undo()");
                Due.holds(run.call("digest()") == run.call("digest()"), "another hash for the same");
                Due.holds(first != 0, "no hash");
            }
        });
    }
}
