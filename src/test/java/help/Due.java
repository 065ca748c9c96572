import java.util.function.LongSupplier;

/** Counts the answers that are not as due. */
final class Due {
    private static int wrong = 0;
    private static int asked = 0;
    private static String subject = "";

    private Due() {
    }

    /** What the next answers are about, for the messages. */
    static void about(String words) {
        subject = words;
    }

    static int asked() {
        return asked;
    }

    private static void complain(String message) {
        wrong++;
        System.out.println(subject.isEmpty() ? message : "[" + subject + "] " + message);
    }

    static void due(String call, long got, long want) {
        asked++;
        if (got != want) {
            complain(call + " answered " + got + ", due is " + want);
        }
    }

    /** Both halves of a fraction. */
    static void due(String call, long gotTop, long gotBottom, long top, long bottom) {
        due(call + " numerator", gotTop, top);
        due(call + " denominator", gotBottom, bottom);
    }

    static void holds(boolean right, String otherwise) {
        asked++;
        if (!right) {
            complain(otherwise);
        }
    }

    /** A call that returns an error: it counts once for this error, and changes nothing else. */
    static void refused(String call, PairSorts x, LongSupplier asked, long want, int error) {
        String before = state(x);
        int[] counts = {x.told(0), x.told(1), x.told(2)};
        due(call, asked.getAsLong(), want);
        for (int i = 0; i < counts.length; i++) {
            due("told(" + i + ") after " + call, x.told(i), counts[i] + (error == -2 - i ? 1 : 0));
        }
        same("the state after " + call, state(x), before);
    }

    static void bad(String call, PairSorts x, LongSupplier asked) {
        refused(call, x, asked, PairSorts.BAD, PairSorts.BAD);
    }

    static void no(String call, PairSorts x, LongSupplier asked) {
        refused(call, x, asked, PairSorts.NO, PairSorts.NO);
    }

    /** The figures without the counts of errors, and the table. */
    static String state(PairSorts x) {
        StringBuilder s = new StringBuilder();
        for (int what = 3; what <= 6; what++) {
            s.append(x.told(what)).append(' ');
        }
        return s.append(triangle(x)).toString();
    }

    /** The table as table() takes it. */
    static String triangle(PairSorts x) {
        StringBuilder s = new StringBuilder();
        for (int b = 1; b < x.told(4); b++) {
            s.append(b > 1 ? " / " : "");
            for (int a = 0; a < b; a++) {
                s.append(x.sort(a, b));
            }
        }
        return s.toString();
    }

    static void same(String what, String got, String want) {
        asked++;
        if (!got.equals(want)) {
            complain(what + " is " + got + ", due is " + want);
        }
    }

    static void end() {
        System.out.println(wrong == 0 ? asked + " answers are as due" : wrong + " of " + asked + " answers are not as due");
        if (wrong != 0) {
            System.exit(1);
        }
    }

    /** Puts a text in place of the old one, by the calls that a caller has. */
    static void text(PairSorts x, String text) {
        x.clear();
        for (int i = 0; i < text.length(); i++) {
            x.type(text.charAt(i));
        }
    }

    /** Makes a table of the rows of a triangle: "1 / 23" has sort(0, 1) 1, sort(0, 2) 2 and sort(1, 2) 3. */
    static PairSorts table(String triangle) {
        PairSorts x = new PairSorts();
        String[] rows = triangle.trim().isEmpty() ? new String[0] : triangle.trim().split(" */ *");
        x.points(rows.length + 1);
        for (int y = 1; y <= rows.length; y++) {
            for (int k = 0; k < y; k++) {
                x.pair(k, y, rows[y - 1].charAt(k) - '0');
            }
        }
        return x;
    }
}
