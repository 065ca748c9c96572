/** TEXTS and promises 25 to 27. */
final class TextSentences extends Sentences {
    /** 33 commands in 99 bytes: there is no room for another one. */
    private static final String MANY = "n5;".repeat(33);

    static void all() {
        theTexts();
        theCommands();
        theBlanks();
        theFaults();
        type();
        clear();
        reads();
    }

    /** A text with the fault p: nothing happens, and nothing is counted. */
    private static void fault(String text, int p) {
        Run.busy().text(text).quiet("reads()", -10 - p);
        new Run().types(text).due("reads()", -10 - p).list("told(#)", 0, 0, 0, 0, text.length(), 4, 1, 0);
    }

    /** A text whose command k would return an error. */
    private static void error(String text, int k) {
        Run.busy().then("points(4)").text(text).quiet("reads()", -1000 - k);
        new Run().types(text).due("reads()", -1000 - k).list("told(#)", 0, 0, 0, 0, text.length(), 4, 1, 0).shows(FOUR);
    }

    /** A text of so many commands that makes this table of a new one. */
    private static Run good(String text, int commands, String triangle) {
        return new Run().types(text).due("reads()", commands).shows(triangle).list("told(#)", 0, 0, 0, 0, text.length())
                .due("told(6)", 1);
    }

    private static void theTexts() {
        at("TEXTS");
        says("Commands can be written as a text of at most 100 bytes, which is empty at first.", () -> {
            new Run().due("told(3)", 0).due("clear()", 0).due("reads()", -10);
            Run full = new Run().types(MANY).due("told(3)", 99).due("type(32)", 100).full("type(32)", "type(59)");
            full.due("told(3)", 100).due("reads()", 33).due("told(4)", 5).due("told(3)", 100);
            // the hundredth byte counts
            good(" ".repeat(97) + "n3;", 1, "1 / 11");
        });
        says("Each command is a letter, numbers of one or two digits, and ;:", () -> {
            good("n3;", 1, "1 / 11");
            good("n03;", 1, "1 / 11");
            good("n13;n2;", 2, "1");
            good("p00 01 05;", 1, "5 / 11 / 111");
            // no letter, a wrong one, a great one, two of them; no number, a third digit; no ;, two of them, another sign
            fault("3;", 0);
            fault("x3;", 0);
            fault("N3;", 0);
            fault("nn3;", 1);
            fault("n;", 1);
            fault("n003;", 3);
            fault("n3n3;", 2);
            fault("n3;;", 3);
            fault("n3:", 2);
            fault("n3/", 2);
            fault("n-3;", 1);
            fault("n+3;", 1);
            fault("n3,", 2);
            fault(";n3;", 0);
        });
    }

    private static void theCommands() {
        says("n N ; points(N)", () -> {
            good("n1;", 1, "");
            good("n13;n2;", 2, "1");
            error("n0;", 0);
            error("n14;", 0);
            error("n99;", 0);
            fault("n;", 1);
            fault("n 3 4;", 4);
        });
        says("p X Y V ; pair(X, Y, V)", () -> {
            good("p0 3 5;", 1, "1 / 11 / 511");
            good("p 2 1 4 ;", 1, "1 / 14 / 111");
            good("n13;p12 11 2;d0;d0;d0;d0;d0;d0;d0;d0;d0;d0;", 12, "1 / 12");
            error("p4 0 1;", 0);
            error("p0 4 1;", 0);
            error("p0 0 1;", 0);
            error("p0 1 0;", 0);
            error("p0 1 6;", 0);
            fault("p;", 1);
            fault("p0;", 2);
            fault("p0 1;", 4);
            fault("p0 1 2 3;", 7);
        });
        says("m K A B ; makes(K, A, B)", () -> {
            good("m0 4 0;", 1, "1 / 21 / 121");
            good("m1 2 2;", 1, "1 / 12 / 211");
            good("m3 1 1;", 1, "");
            good("m3 13 1;n1;", 2, "");
            error("m6 3 1;", 0);
            error("m0 12 0;", 0);
            error("m3 14 1;", 0);
            error("m1 2 4;", 0);
            fault("m0;", 2);
            fault("m0 4;", 4);
            fault("m0 4 0 0;", 7);
        });
        says("r I J ; renames(I, J)", () -> {
            good("r1 5;", 1, "5 / 55 / 555");
            good("r2 3;", 1, FOUR);
            error("r1 1;", 0);
            error("r0 1;", 0);
            error("r1 6;", 0);
            fault("r1;", 2);
            fault("r1 2 3;", 5);
        });
        says("d X ; drops(X)", () -> {
            good("d3;", 1, "1 / 11");
            good("p0 1 2;d3;d2;", 3, "2");
            error("d4;", 0);
            error("n1;d0;", 1);
            error("n1;d1;", 1);
            fault("d;", 1);
            fault("d1 1;", 3);
        });
        says("f K ; fuses(K)", () -> {
            good("f0;", 1, FOUR);
            good("m4 2 2;f1;", 2, "1 / 12 / 211");
            error("f1;", 0);
            error("n1;f0;", 1);
            error("m4 2 2;f5;", 1);
            fault("f;", 1);
            fault("f0 0;", 3);
        });
    }

    private static void theBlanks() {
        says("Blanks (32) may stand anywhere but within a number;", () -> {
            good("   n   3   ;   ", 1, "1 / 11");
            good("  p  0   3  5  ;  r 1   2 ;  ", 2, "2 / 22 / 522");
            good("n3;                      ", 1, "1 / 11");
            good("n 3 ;".repeat(20), 20, "1 / 11");
            // within a number: its second digit stands alone, where no number can stand
            fault("n1 3;", 3);
            fault("n 1 3 ;", 4);
            fault("r1 2 3;", 5);
            // other signs of no width are no blanks
            for (char c : new char[] {0, 9, 10, 13, 31, 33, 127}) {
                fault(c + "n3;", 0);
                fault("n" + c + "3;", 1);
                fault("n3" + c + ";", 2);
                fault("n3;" + c, 3);
            }
        });
        says("one is needed only between two numbers.", () -> {
            good("p0 1 2;p2 3 2;r1 2;d3;n3;m0 4 0;f0;", 7, FOUR);
            // without it two numbers are one
            fault("p01 2;", 5);
            fault("p012;", 3);
            fault("p0 12;", 5);
            fault("r12;", 3);
            fault("r123;", 3);
            good("p0  1  2;", 1, "2 / 11 / 111");
        });
        says("There are one or more commands.", () -> {
            fault("", 0);
            fault(" ", 1);
            good("n3;", 1, "1 / 11");
            good(MANY, 33, "1 / 11 / 111 / 1111");
            good(MANY + " ", 33, "1 / 11 / 111 / 1111");
        });
    }

    private static void theFaults() {
        says("The fault of a text is the index of the first byte that cannot stand there (a third digit of a number, too);",
                () -> {
            fault("n123;", 3);
            fault("n 000;", 4);
            fault("p1 2 345;", 7);
            fault("p123 1 1;", 3);
            fault("?", 0);
            fault("  ?", 2);
            fault("n3;?", 3);
            fault("n3;?n4?", 3);
            fault(MANY + ";", 99);
            fault("n3;".repeat(32) + "n003", 99);
            // a fault comes before an error of a command
            fault("n0;n99;?", 7);
            fault("n99;n123;", 7);
        });
        says("if the text ends too early (also if it is empty, or only blanks), it is the number of its bytes.", () -> {
            fault("", 0);
            fault(" ", 1);
            fault(" ".repeat(100), 100);
            fault("n", 1);
            fault("n ", 2);
            fault("n3", 2);
            fault("n3 ", 3);
            fault("n33", 3);
            fault("p0 1 2", 6);
            fault("p0 1", 4);
            fault("n3;n", 4);
            fault("n3; n4", 6);
            fault(MANY + "n", 100);
            fault("n0;n", 4);
        });
    }

    private static void type() {
        at("Promise 25");
        says("Appends a byte to the text.", () -> {
            new Run().then("type(110)", "type(51)").due("reads()", -12).then("type(59)").due("reads()", 1).shows("1 / 11");
            Run.busy().text("n2;").types("n3;").due("reads()", 2).due("told(4)", 3);
        });
        says("- `c`: 0 to 127", () -> {
            new Run().due("type(0)", 1).due("type(127)", 2).due("reads()", -10);
            Run all = new Run();
            for (int c = 0; c < 100; c++) {
                all.due("type(" + c + ")", c + 1);
            }
        });
        says("Returns the number of bytes then;", () -> new Run().due("type(32)", 1).due("type(32)", 2).due("told(3)", 2)
                .then("clear()").due("type(32)", 1));
        says("BAD if c is out of range;", () -> {
            Run.busy().bad("type(-1)", "type(128)", "type(MIN)", "type(MAX)", "type(256)", "type(366)", "type(-146)");
            new Run().types(" ".repeat(100)).bad("type(-1)", "type(128)");
        });
        says("FULL if there are 100 bytes.", () -> {
            new Run().types(" ".repeat(99)).due("type(0)", 100).full("type(0)", "type(127)", "type(32)").due("told(3)", 100)
                    .then("clear()").due("type(110)", 1);
        });
    }

    private static void clear() {
        at("Promise 26");
        says("Empties the text.", () -> {
            new Run().types("n3;").then("clear()").due("told(3)", 0).due("reads()", -10);
            new Run().types(MANY + "n").then("clear()").types("n2;").due("reads()", 1).due("told(4)", 2);
            // it empties nothing else
            new Run().then("points(3)", "told(9)").types("n2;").then("clear()").list("told(#)", 0, 1, 0, 0, 0, 3, 1, 1)
                    .due("undo()", 0);
        });
        says("Returns how many bytes it had.", () -> new Run().due("clear()", 0).types("n3;").due("clear()", 3)
                .due("clear()", 0).types(" ".repeat(100)).due("clear()", 100).due("clear()", 0));
    }

    private static void reads() {
        at("Promise 27");
        says("Executes all commands of the text, in order.", () -> {
            good("n3;p0 1 2;p 1 2 3; r 1 2 ;", 4, "1 / 23");
            good("p0 1 5;n3;", 2, "1 / 11");
            good("n3;p0 1 5;", 2, "5 / 11");
            // each command finds the table that those before it have left
            good("m1 3 2;f2;f0;f0;d7;", 5, "1 / 11 / 111 / 1111 / 11111 / 111111");
            good("n5;p4 0 2;d1;", 3, "1 / 11 / 211");
        });
        says("The text stays.", () -> new Run().types("d0;").due("reads()", 1).due("told(3)", 3).due("reads()", 1)
                .due("reads()", 1).due("told(4)", 1).due("reads()", -1000).due("told(3)", 3).due("clear()", 3));
        says("The table before them is kept for undo() once.", () -> {
            new Run().then("pair(0, 1, 2)").types("n5;n6;n7;").due("reads()", 3).due("told(6)", 2).due("undo()", 1)
                    .shows("2 / 11 / 111").due("undo()", 0).shows(FOUR);
            new Run().types(MANY).due("reads()", 33).due("told(6)", 1).due("undo()", 0).shows(FOUR).no("undo()");
            // also if the commands change nothing
            new Run().types("f0;").due("reads()", 1).due("told(6)", 1);
        });
        says("If a call would return an error, nothing is done at all.", () -> {
            error("n5;p0 4 2;r1 2;d9;", 3);
            error("n5;".repeat(32) + "n0;", 32);
            Run.kind(1, 3, 2).due("rows()", 4).due("fusions(NONE)", 4).text("n5;m0 4 0;f9;").quiet("reads()", -1002)
                    .due("rows()", 4).due("fusions(NONE)", 4).due("told(4)", 8);
            // six tables stay kept, the oldest too
            Run six = new Run().then("points(5)", "points(6)", "points(7)", "points(8)", "points(9)", "points(10)");
            six.types("n2;d5;").due("reads()", -1001).due("told(6)", 6).due("told(4)", 10);
            six.list("undo()", 0, 5, 4, 3, 2, 1, 0).due("told(4)", 4);
        });
        says("Faults and errors of commands are not counted as errors.", () -> {
            new Run().types("n0;").due("reads()", -1000).list("told(#)", 0, 0, 0, 0);
            new Run().types("n1;d0;").due("reads()", -1001).list("told(#)", 0, 0, 0, 0);
            new Run().types("n1;f0;").due("reads()", -1001).list("told(#)", 0, 0, 0, 0);
            new Run().types("n0").due("reads()", -12).list("told(#)", 0, 0, 0, 0);
            new Run().due("reads()", -10).list("told(#)", 0, 0, 0, 0);
        });
        says("Returns the number of commands;", () -> {
            good("n3;", 1, "1 / 11");
            good("n3;n2;", 2, "1");
            good(MANY, 33, "1 / 11 / 111 / 1111");
        });
        says("-10 - p if the text has the fault p;", () -> {
            fault("", 0);
            fault("?", 0);
            fault("n", 1);
            fault(MANY + "n", 100);
            fault(MANY + "?", 99);
        });
        says("-1000 - k if command k (from 0) would return an error.", () -> {
            error("n0;n5;", 0);
            error("n5;n0;n99;", 1);
            error("n5;p4 3 2;p5 0 1;", 2);
            error("n5;".repeat(32) + "d5;", 32);
            // an error that the commands before it make, and one that they mend
            error("n2;p0 3 1;", 1);
            good("n5;p0 4 2;", 2, "1 / 11 / 111 / 2111");
        });
    }
}
