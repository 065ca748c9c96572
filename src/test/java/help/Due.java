/** Counts the answers that are not as due. */
final class Due {
    private static int wrong = 0;
    private static int asked = 0;

    private Due() {
    }

    static void due(String call, long got, long want) {
        asked++;
        if (got != want) {
            wrong++;
            System.out.println(call + " answered " + got + ", due is " + want);
        }
    }

    /** Both halves of a fraction. */
    static void due(String call, long gotTop, long gotBottom, long top, long bottom) {
        due(call + " numerator", gotTop, top);
        due(call + " denominator", gotBottom, bottom);
    }

    static void wrong(String what) {
        asked++;
        wrong++;
        System.out.println(what);
    }

    static void end() {
        System.out.println(wrong == 0 ? asked + " answers are as due" : wrong + " of " + asked + " answers are not as due");
        if (wrong != 0) {
            System.exit(1);
        }
    }

    /** Puts a text in place of the old one, by the calls that a caller has. */
    static void text(PairSorts x, String text) {
        x.clear();
        for (int i = 0; i < text.length(); i++) {
            x.type(text.charAt(i));
        }
    }

    /** Makes a table of the rows of a triangle: "1 / 23" has sort(0, 1) 1, sort(0, 2) 2 and sort(1, 2) 3. */
    static PairSorts table(String triangle) {
        PairSorts x = new PairSorts();
        String[] rows = triangle.trim().isEmpty() ? new String[0] : triangle.trim().split(" */ *");
        x.points(rows.length + 1);
        for (int y = 1; y <= rows.length; y++) {
            for (int k = 0; k < y; k++) {
                x.pair(k, y, rows[y - 1].charAt(k) - '0');
            }
        }
        return x;
    }
}
