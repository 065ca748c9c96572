import java.io.IOException;
import java.nio.file.Files;
import java.nio.file.Path;
import java.util.Arrays;
import java.util.LinkedHashMap;
import java.util.Map;
import java.util.regex.Matcher;
import java.util.regex.Pattern;

/**
 * The document, sentence by sentence: each test quotes the words that it tests, and in the end no word
 * of the document is left that neither a test quotes nor plain() names.
 */
abstract class Sentences {
    // tables that many sentences need, as Run.of() takes them

    /** The table of a new object. */
    static final String FOUR = "1 / 11 / 111";
    /** Three points of which the middle one has two neighbours: no scheme. */
    static final String PATH = "1 / 21";
    /** Nine points of a plane with four directions: a scheme, of which all fusions are good. */
    static final String PLANE = "1 / 11 / 243 / 3241 / 43211 / 234243 / 4233241 / 34243211";
    /** Three bits, their differences in five sorts: an integral scheme with as many relations as there can be. */
    static final String BITS = "1 / 23 / 321 / 4455 / 44551 / 554423 / 5544321";

    private static final Pattern CAPITALS = Pattern.compile("[A-Z][A-Z ]+");
    private static final Pattern SIGNATURE = Pattern.compile("`[^`]*`");

    private static final Map<String, StringBuilder> TEXTS = new LinkedHashMap<>();
    private static final Map<String, boolean[]> QUOTED = new LinkedHashMap<>();
    private static String place = "";

    /** Takes the document apart: by its headings of both sorts, without the code, blanks folded. */
    static void open(Path document) throws IOException {
        boolean code = false;
        for (String line : Files.readAllLines(document)) {
            String words = line.trim().replaceAll("\\s+", " ");
            code ^= words.startsWith("```");
            if (words.startsWith("## ")) {
                place = words.substring(3).replaceAll(":.*", "");
            } else if (CAPITALS.matcher(words).matches()) {
                place = words;
            } else if (!code && !isHead(words)) {
                TEXTS.computeIfAbsent(place, p -> new StringBuilder()).append(words).append(' ');
            }
        }
        TEXTS.forEach((p, text) -> QUOTED.put(p, new boolean[text.length()]));
    }

    private static boolean isHead(String words) {
        return words.isEmpty() || words.startsWith("# ") || words.startsWith("```") || words.startsWith("---- ")
                || SIGNATURE.matcher(words).matches();
    }

    /** The heading under which the next quotes stand. */
    static void at(String heading) {
        place = heading;
        Due.holds(TEXTS.containsKey(place), "the document has no " + place);
    }

    /** Words of the document and their test. */
    static void says(String quote, Runnable test) {
        mark(quote);
        Due.about(place + ": " + quote);
        int before = Due.asked();
        test.run();
        Due.holds(Due.asked() > before, "the test asks for nothing");
        Due.about("");
    }

    /** Words that promise nothing that a call could show by itself. */
    static void plain(String quote) {
        mark(quote);
    }

    private static void mark(String quote) {
        StringBuilder text = TEXTS.getOrDefault(place, new StringBuilder());
        boolean[] quoted = QUOTED.getOrDefault(place, new boolean[0]);
        int from = text.indexOf(quote);
        while (from >= 0 && quoted[from]) {
            from = text.indexOf(quote, from + 1);
        }
        Due.holds(from >= 0, place + " does not say, or not once more: " + quote);
        if (from >= 0) {
            Arrays.fill(quoted, from, from + quote.length(), true);
        }
    }

    /** Tells the words that are left over. */
    static void close() {
        TEXTS.forEach((p, text) -> {
            boolean[] quoted = QUOTED.get(p);
            StringBuilder left = new StringBuilder();
            for (int i = 0; i < quoted.length; i++) {
                left.append(quoted[i] ? '\n' : text.charAt(i));
            }
            Matcher words = Pattern.compile("[^\n]*\\w[^\n]*").matcher(left);
            while (words.find()) {
                Due.holds(false, p + ": no test for: " + words.group().trim());
            }
        });
    }
}
