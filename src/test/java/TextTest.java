/** Promises 25 to 30: type, clear, reads, undo, told, digest. */
public final class TextTest {
    public static void main(String[] args) {
        type();
        clear();
        readsFaults();
        readsCommands();
        readsErrors();
        undo();
        told();
        digest();
        Due.end();
    }

    private static void type() {
        PairSorts x = new PairSorts();
        for (int c : new int[] {-1, 128, Integer.MIN_VALUE, Integer.MAX_VALUE}) {
            Due.bad("type(" + c + ")", x, () -> x.type(c));
        }
        for (int i = 1; i <= 100; i++) {
            Due.due("type() " + i, x.type(i % 2 == 0 ? 0 : 127), i);
        }
        Due.refused("type(32) of a full text", x, () -> x.type(32), PairSorts.FULL, PairSorts.FULL);
        Due.bad("type(128) of a full text", x, () -> x.type(128));
        Due.due("told(3)", x.told(3), 100);
    }

    private static void clear() {
        PairSorts x = new PairSorts();
        Due.due("clear() of no text", x.clear(), 0);
        Due.text(x, "n5;");
        Due.due("clear()", x.clear(), 3);
        Due.due("told(3) after clear()", x.told(3), 0);
        Due.due("clear() again", x.clear(), 0);
        Due.due("reads() after clear()", x.reads(), -10);
        Due.due("type(110) after clear()", x.type(110), 1);
        Due.due("told(6) after clear()", x.told(6), 0);
    }

    private static void readDue(String text, int due) {
        PairSorts x = new PairSorts();
        Due.text(x, text);
        String before = Due.state(x);
        Due.due("reads() of '" + text + "'", x.reads(), due);
        if (due < 0) {
            Due.same("the state after '" + text + "'", Due.state(x), before);
        } else {
            Due.due("told(6) after '" + text + "'", x.told(6), 1);
        }
        for (int what = 0; what <= 2; what++) {
            Due.due("told(" + what + ") after '" + text + "'", x.told(what), 0);
        }
    }

    private static void readsFaults() {
        readDue("", -10);
        readDue("   ", -13);
        readDue(";", -10);
        readDue("5", -10);
        readDue("N5;", -10);
        readDue("\t", -10);
        readDue("n", -11);
        readDue("n;", -11);
        readDue("n 5", -13);
        readDue("n 5 ", -14);
        readDue("n5;;", -13);
        readDue("n5; n", -15);
        readDue("n5;x", -13);
        readDue("nn5;", -11);
        readDue("n123;", -13);
        readDue("n12 3;", -14);
        readDue("n 1 2;", -14);
        readDue("n-5;", -11);
        readDue("n5,", -12);
        readDue("n5:", -12);
        readDue("n5/", -12);
        readDue("p 0 1;", -15);
        readDue("p 012;", -14);
        readDue("p01 2;", -15);
        readDue("p 0 1 2 3;", -18);
        readDue("m1 3;", -14);
        readDue("r 1 2 3;", -16);
        readDue("r 1;", -13);
        readDue("d;", -11);
        readDue("d 1 1;", -14);
        readDue("f", -11);
        readDue("n5;" + "\0", -13);
        readDue("n5;".repeat(33) + "n", -110);
        readDue("n99;n123;", -17);
    }

    private static void readsCommands() {
        readDue("n5;", 1);
        readDue("  n  5  ;  ", 1);
        readDue("n05;n5;n 13 ;", 3);
        readDue("n5;".repeat(33), 33);
        readDue("n5;".repeat(33) + " ", 33);
        readDue("p0 1 2;", 1);
        readDue("p00 01 02;", 1);
        readDue("r4 5;d0;f0;m0 5 0;", 4);
        PairSorts x = new PairSorts();
        Due.text(x, "n3;p0 1 2;p 1 2 3; r 1 2 ;");
        Due.due("reads()", x.reads(), 4);
        Due.same("the table after reads()", Due.triangle(x), "1 / 23");
        Due.due("told(3): the text stays", x.told(3), 26);
        Due.due("reads() again", x.reads(), 4);
        Due.due("told(6) after two reads()", x.told(6), 2);
        Due.text(x, "m4 2 3;f3;d5;");
        Due.due("reads()", x.reads(), 3);
        Due.same("the table after reads()", Due.triangle(x), "1 / 11 / 233 / 3231");
        Due.due("undo(): kept once", x.undo(), 2);
        Due.same("the table after undo()", Due.triangle(x), "1 / 23");
        // f is about the table that the commands before it have made
        Due.text(x, "m1 3 2;f2;f0;f0;");
        Due.due("reads() with fusions", x.reads(), 4);
        Due.due("told(5) after it", x.told(5), 1);
        Due.due("told(4) after it", x.told(4), 8);
    }

    private static void readsErrors() {
        readDue("n0;", -1000);
        readDue("n14;", -1000);
        readDue("n5;n99;", -1001);
        readDue("n5;p0 5 1;", -1001);
        readDue("p0 0 1;", -1000);
        readDue("p0 1 6;", -1000);
        readDue("r1 1;", -1000);
        readDue("r1 6;", -1000);
        readDue("m6 1 1;", -1000);
        readDue("m0 5 1;", -1000);
        readDue("d4;", -1000);
        readDue("n1;d0;", -1001);
        readDue("f1;", -1000);
        readDue("n1;f0;", -1001);
        readDue("n5;".repeat(32) + "n0;", -1032);
        PairSorts x = new PairSorts();
        x.makes(1, 3, 2);
        Due.due("rows() before", x.rows(), 4);
        Due.text(x, "n5;m0 4 0;f9;");
        Due.due("reads()", x.reads(), -1002);
        Due.due("rows() after", x.rows(), 4);
        Due.due("told(4) after", x.told(4), 8);
        Due.due("fusions(NONE) after", x.fusions(PairSorts.NONE), 4);
        Due.due("undo() after", x.undo(), 0);
        Due.same("the table after undo()", Due.triangle(x), "1 / 11 / 111");
    }

    private static void undo() {
        PairSorts x = new PairSorts();
        for (int n = 5; n <= 12; n++) {
            x.points(n);
            Due.due("told(6)", x.told(6), Math.min(6, n - 4));
        }
        // before the six last calls there were 6 to 11 points
        for (int n = 11; n >= 6; n--) {
            Due.due("undo()", x.undo(), n - 6);
            Due.due("told(4) after undo()", x.told(4), n);
        }
        Due.no("undo() of none", x, () -> x.undo());
        x.makes(0, 5, 0);
        x.points(14);
        x.pair(0, 0, 1);
        x.renames(1, 1);
        x.drops(9);
        x.fuses(99);
        Due.due("told(6): errors keep nothing", x.told(6), 1);
        x.pair(0, 1, 1);
        x.renames(3, 4);
        x.fuses(1);
        Due.due("told(6): what changes nothing is kept", x.told(6), 4);
        x.drops(0);
        Due.text(x, "n2;");
        x.reads();
        Due.due("told(6)", x.told(6), 6);
        Due.due("undo() of reads()", x.undo(), 5);
        Due.due("told(4)", x.told(4), 4);
        Due.due("told(3): undo() leaves the text", x.told(3), 3);
        Due.due("undo() of drops()", x.undo(), 4);
        Due.due("told(4)", x.told(4), 5);
        Due.due("told(5)", x.told(5), 2);
        x.undo();
        x.undo();
        x.undo();
        Due.due("undo() of makes()", x.undo(), 0);
        Due.same("the table after it", Due.triangle(x), "1 / 11 / 111 / 1111 / 11111");
    }

    private static void told() {
        PairSorts x = new PairSorts();
        x.points(0);
        x.sort(4, 0);
        x.back(9, 0, 0);
        x.told(7);
        x.told(-1);
        x.undo();
        x.cross(9, 0, 0, 0);
        x.back(0, 9, 0);
        for (int i = 0; i < 102; i++) {
            x.type(0);
        }
        int[] due = {5, 3, 2, 100, 4, 1, 0};
        for (int what = 0; what < due.length; what++) {
            Due.due("told(" + what + ")", x.told(what), due[what]);
        }
        Due.bad("told(7)", x, () -> x.told(7));
        Due.bad("told(-1)", x, () -> x.told(-1));
        Due.bad("told(MIN)", x, () -> x.told(Integer.MIN_VALUE));
        x.pair(0, 1, 5);
        Due.due("told(5)", x.told(5), 5);
        Due.due("told(6)", x.told(6), 1);
        Due.due("-5 is no error: told(0)", x.fusions(999) + x.told(0), -5 + 8);
        x.verdict(5);
        Due.due("NONE is no error: told(0)", x.told(0), 8);
        Due.due("NONE is no error: told(1)", x.told(1), 3);
    }

    private static long hash(int... numbers) {
        long hash = 2347;
        for (int number : numbers) {
            hash = 31 * hash + number;
        }
        return hash;
    }

    private static void digest() {
        PairSorts x = new PairSorts();
        // figures, table, verdict, rows, 3 1, -1 3, step orders
        Due.due("digest() at first", x.digest(), hash(0, 0, 0, 0, 4, 1, 0, 1, 1, 1, 1, 1, 1,
                0, -1, -1, -1, -1, -1, 2, 3, 1, -1, 3, 1));
        x.points(1);
        Due.due("digest() of one point", x.digest(), hash(0, 0, 0, 0, 1, 0, 1,
                0, -1, -1, -1, -1, -1, 1, 1, 1));
        x.points(3);
        x.pair(0, 2, 2);
        x.drops(3);
        x.type(65);
        Due.due("digest() of a path", x.digest(), hash(1, 0, 0, 1, 3, 2, 3, 1, 2, 1, 2, 1, 1, 0, 0, 17));
        x.pair(1, 2, 4);
        Due.due("digest() with 3 missing", x.digest(), hash(1, 0, 0, 1, 3, 4, 4, 1, 2, 4, 1, 3, -1, -1, -1, -1));
        x.makes(0, 5, 0);
        x.rows();
        x.undo();
        x.undo();
        x.undo();
        x.makes(0, 5, 0);
        Due.due("digest() of a ring", x.digest(), hash(1, 0, 0, 1, 5, 2, 3,
                1, 2, 1, 2, 2, 1, 1, 2, 2, 1, 0, -1, -1, -1, -1, -1, 1, 2, 2, 1, 2));
    }
}
