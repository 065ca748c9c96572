import java.lang.reflect.InvocationTargetException;
import java.lang.reflect.Method;
import java.lang.reflect.Modifier;
import java.util.ArrayList;
import java.util.HashMap;
import java.util.List;
import java.util.Map;

/**
 * An object and the calls on it, each written as a text, "pair(0, 1, 5)": so a run can be told again,
 * and what a refused call has changed can be seen by the side of an object on which it was not made.
 */
final class Run {
    /** What a run may hold: the document promises nothing about later calls. */
    private static final int MOST_CALLS = 512;
    private static final Map<String, Method> METHODS = methods();

    private final List<String> calls = new ArrayList<>();
    private final PairSorts x = new PairSorts();

    private static Map<String, Method> methods() {
        Map<String, Method> found = new HashMap<>();
        for (Method m : PairSorts.class.getDeclaredMethods()) {
            if (Modifier.isPublic(m.getModifiers())) {
                found.put(m.getName(), m);
            }
        }
        return found;
    }

    /** A new object with a text, kept tables, and an error of each count that a short way leads to. */
    static Run busy() {
        return new Run().then("points(5)", "pair(1, 4, 2)", "told(-1)", "fuses(99)").text("n3;p0 1 2;");
    }

    static Run kind(int kind, int a, int b) {
        return busy().then("makes(" + kind + ", " + a + ", " + b + ")");
    }

    /** The triangle of a table: "1 / 23" has sort(0, 1) 1, sort(0, 2) 2 and sort(1, 2) 3. */
    static Run of(String triangle) {
        return busy().table(triangle);
    }

    // ---- calls

    long call(String call) {
        calls.add(call);
        if (calls.size() > MOST_CALLS) {
            throw new IllegalStateException("a run of more than " + MOST_CALLS + " calls");
        }
        return perform(x, call);
    }

    private static long perform(PairSorts x, String call) {
        int open = call.indexOf('(');
        Method method = METHODS.get(call.substring(0, open));
        String inside = call.substring(open + 1, call.length() - 1).trim();
        String[] words = inside.isEmpty() ? new String[0] : inside.split(" *, *");
        Object[] numbers = new Object[words.length];
        for (int i = 0; i < words.length; i++) {
            numbers[i] = number(words[i]);
        }
        try {
            return ((Number) method.invoke(x, numbers)).longValue();
        } catch (IllegalAccessException e) {
            throw new IllegalStateException(call, e);
        } catch (InvocationTargetException e) {
            throw new IllegalStateException(call + " has thrown", e.getCause());
        }
    }

    private static int number(String word) {
        switch (word) {
            case "NONE":
                return PairSorts.NONE;
            case "MAX":
                return Integer.MAX_VALUE;
            case "MIN":
                return Integer.MIN_VALUE;
            default:
                return Integer.parseInt(word);
        }
    }

    /** Calls whose answers are not asked for. */
    Run then(String... more) {
        for (String call : more) {
            call(call);
        }
        return this;
    }

    Run text(String bytes) {
        call("clear()");
        return types(bytes);
    }

    Run types(String bytes) {
        for (int i = 0; i < bytes.length(); i++) {
            call("type(" + (int) bytes.charAt(i) + ")");
        }
        return this;
    }

    Run table(String triangle) {
        String[] lines = triangle.isEmpty() ? new String[0] : triangle.split(" / ");
        call("points(" + (lines.length + 1) + ")");
        for (int y = 1; y <= lines.length; y++) {
            for (int k = 0; k < y; k++) {
                char v = lines[y - 1].charAt(k);
                if (v != '1') {
                    call("pair(" + k + ", " + y + ", " + v + ")");
                }
            }
        }
        return this;
    }

    // ---- answers

    Run due(String call, long want) {
        Due.due(call + " after " + tail(), call(call), want);
        return this;
    }

    /** Both halves of a fraction, of a call without its last argument. */
    Run fraction(String call, long top, long bottom) {
        String start = call.substring(0, call.length() - 1);
        return due(start + ", 0)", top).due(start + ", 1)", bottom);
    }

    Run shows(String triangle) {
        String before = tail();
        StringBuilder found = new StringBuilder();
        long n = call("told(4)");
        for (int b = 1; b < n; b++) {
            found.append(b > 1 ? " / " : "");
            for (int a = 0; a < b; a++) {
                found.append(call("sort(" + a + ", " + b + ")"));
            }
        }
        Due.same("the table after " + before, found.toString(), triangle);
        return this;
    }

    /** What calls answer one after the other with a number put in place of #. */
    Run list(String call, int first, long... want) {
        for (int i = 0; i < want.length; i++) {
            due(call.replace("#", Integer.toString(first + i)), want[i]);
        }
        return this;
    }

    Run bad(String... refused) {
        for (String call : refused) {
            refused(call, PairSorts.BAD, PairSorts.BAD);
        }
        return this;
    }

    Run no(String... refused) {
        for (String call : refused) {
            refused(call, PairSorts.NO, PairSorts.NO);
        }
        return this;
    }

    Run full(String... refused) {
        for (String call : refused) {
            refused(call, PairSorts.FULL, PairSorts.FULL);
        }
        return this;
    }

    /** A call that returns an error: it counts once for this error alone, and changes nothing else. */
    Run refused(String call, long answer, int error) {
        PairSorts with = again();
        PairSorts without = again();
        String name = call + " after " + tail();
        Due.due(name, perform(with, call), answer);
        for (int i = 0; i < 3; i++) {
            long before = without.told(i);
            Due.due("told(" + i + ") after " + name, with.told(i), before + (error == PairSorts.BAD - i ? 1 : 0));
        }
        Due.same("all but the counts after " + name, trace(with), trace(without));
        call(call);
        return this;
    }

    /** A call that counts no error and changes nothing, whatever it answers. */
    Run quiet(String call, long want) {
        PairSorts with = again();
        Due.due(call + " after " + tail(), perform(with, call), want);
        for (int i = 0; i < 3; i++) {
            Due.due("told(" + i + ") after " + call, with.told(i), x.told(i));
        }
        Due.same("the state after " + call, trace(with), trace(again()));
        call(call);
        return this;
    }

    private PairSorts again() {
        PairSorts other = new PairSorts();
        for (String call : calls) {
            perform(other, call);
        }
        return other;
    }

    /** What an object answers from here on, its counts of errors left out; it is used up by this. */
    private static String trace(PairSorts x) {
        StringBuilder s = new StringBuilder(Due.state(x));
        for (int what = 0; what <= 5; what++) {
            s.append(' ').append(x.verdict(what));
        }
        s.append(" rows ").append(x.rows()).append(" orders ").append(x.orders(0, -1)).append(' ');
        s.append(x.orders(1, -1)).append(" fusions ").append(x.fusions(-1)).append(" most ").append(x.most(0, 1));
        for (int left = x.undo(); left >= 0; left = x.undo()) {
            s.append(" undo ").append(Due.state(x));
        }
        s.append(" reads ").append(x.reads()).append(" then ").append(Due.state(x));
        return s.append(" text ").append(x.clear()).toString();
    }

    /** The last calls, for a message. */
    private String tail() {
        int from = Math.max(0, calls.size() - 5);
        return (from > 0 ? ".. " : "") + calls.subList(from, calls.size());
    }
}
