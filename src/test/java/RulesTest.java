import java.io.IOException;
import java.lang.reflect.Constructor;
import java.lang.reflect.Field;
import java.lang.reflect.Method;
import java.lang.reflect.Modifier;
import java.nio.file.Files;
import java.nio.file.Path;
import java.util.Arrays;
import java.util.Set;
import java.util.TreeSet;
import java.util.regex.Matcher;
import java.util.regex.Pattern;

/** The document's public face, and the rules of ../shared/LANGUAGE.md that can be seen from outside a method. */
public final class RulesTest {
    private static final String[] FACE = {"int points(int)", "int pair(int, int, int)", "int makes(int, int, int)",
        "int renames(int, int)", "int drops(int)", "int fuses(int)", "int sort(int, int)", "int verdict(int)",
        "int valence(int)", "int paths(int, int, int)", "int rows()", "int row(int, int)", "int times(int)",
        "long back(int, int, int)", "long cross(int, int, int, int)", "int orders(int, int)", "int fusions(int)",
        "int spread(int, int, int)", "long shadow(int, int, int)", "long bound(int, int)", "int most(int, int)",
        "int sieve(int, int, int, int)", "int sieved(int, int)", "int type(int)", "int clear()", "int reads()",
        "int undo()", "int told(int)", "long digest()"};
    private static final String[] CONSTANTS = {"NONE = -1", "BAD = -2", "NO = -3", "FULL = -4"};

    public static void main(String[] args) throws IOException, IllegalAccessException {
        face();
        constants();
        classes();
        words();
        lengths();
        Due.end();
    }

    private static String signature(Method m) {
        StringBuilder s = new StringBuilder(m.getReturnType().getName() + " " + m.getName() + "(");
        for (int i = 0; i < m.getParameterCount(); i++) {
            s.append(i > 0 ? ", " : "").append(m.getParameterTypes()[i].getName());
        }
        return s.append(")").toString();
    }

    private static void face() {
        Set<String> found = new TreeSet<>();
        Set<String> names = new TreeSet<>();
        for (Method m : PairSorts.class.getDeclaredMethods()) {
            if (Modifier.isPublic(m.getModifiers())) {
                found.add(signature(m));
                names.add(m.getName());
                Due.holds(!Modifier.isStatic(m.getModifiers()), m + " is static");
            }
        }
        Due.same("the public methods", found.toString(), new TreeSet<>(Arrays.asList(FACE)).toString());
        for (Method m : PairSorts.class.getDeclaredMethods()) {
            boolean hidden = Modifier.isPrivate(m.getModifiers());
            Due.holds(hidden || Modifier.isPublic(m.getModifiers()), m + " is neither public nor private");
            Due.holds(!hidden || !names.contains(m.getName()), m + " bears the name of a public method");
        }
        for (Class<?> inner : PairSorts.class.getDeclaredClasses()) {
            for (Method m : inner.getDeclaredMethods()) {
                Due.holds(!names.contains(m.getName()), m + " bears the name of a public method");
            }
        }
        Constructor<?>[] made = PairSorts.class.getDeclaredConstructors();
        Due.due("constructors", made.length, 1);
        Due.holds(Modifier.isPublic(made[0].getModifiers()) && made[0].getParameterCount() == 0, "the constructor");
        int flags = PairSorts.class.getModifiers();
        Due.holds(Modifier.isPublic(flags) && Modifier.isFinal(flags), "the class is not public and final");
    }

    private static void constants() throws IllegalAccessException {
        Set<String> found = new TreeSet<>();
        for (Field f : PairSorts.class.getDeclaredFields()) {
            if (Modifier.isPublic(f.getModifiers())) {
                Due.holds(Modifier.isStatic(f.getModifiers()) && f.getType() == int.class, f + " is no int constant");
                found.add(f.getName() + " = " + f.getInt(null));
            } else {
                Due.holds(Modifier.isPrivate(f.getModifiers()), f + " is not private");
            }
        }
        Due.same("the public constants", found.toString(), new TreeSet<>(Arrays.asList(CONSTANTS)).toString());
    }

    private static void classes() {
        Class<?>[] inner = PairSorts.class.getDeclaredClasses();
        Due.holds(inner.length <= 12, "more than twelve classes");
        sizes(PairSorts.class);
        for (Class<?> c : inner) {
            Due.holds(Modifier.isStatic(c.getModifiers()), c + " is not static");
            Due.holds(!Modifier.isPublic(c.getModifiers()) && !Modifier.isProtected(c.getModifiers()), c + " is visible");
            Due.holds(c.getDeclaredClasses().length == 0, c + " has classes of its own");
            sizes(c);
        }
    }

    private static void sizes(Class<?> c) {
        int fields = 0;
        for (Field f : c.getDeclaredFields()) {
            boolean fixed = Modifier.isStatic(f.getModifiers());
            fields += fixed ? 0 : 1;
            Due.holds(!fixed || Modifier.isFinal(f.getModifiers()), f + " is static and not final");
        }
        Due.holds(fields <= 20, c + " has more than twenty fields");
        for (Method m : c.getDeclaredMethods()) {
            Due.holds(m.getParameterCount() <= 7, m + " has more than seven parameters");
            Due.holds(!m.isSynthetic(), m + " comes from a lambda or the like");
            Due.holds(!Set.of("equals", "hashCode", "toString").contains(m.getName()), m + " is one of Object's");
        }
    }

    private static String code() throws IOException {
        String source = Files.readString(Path.of("src/main/java/PairSorts.java"));
        Due.holds(source.chars().allMatch(c -> c == '\n' || c >= 32 && c < 127), "a sign that is not plain");
        return source.replaceAll("(?s)/\\*.*?\\*/", "").replaceAll("//[^\n]*", "");
    }

    private static void words() throws IOException {
        String code = code();
        String[] forbidden = {"\\bthrow\\b", "\\bthrows\\b", "\\btry\\b", "\\bcatch\\b", "\\bsynchronized\\b",
            "\\bassert\\b", "\\bimport\\b", "\\bpackage\\b", "->", "::", "\\bObject\\b", "Exact\\b", "\\bdouble\\b",
            "\\bfloat\\b", "\\bstatic\\s*\\{", "\\bThread\\b", "\\bRandom\\b", "\\bvolatile\\b", "\\bnative\\b",
            "\\bwhile\\s*\\(\\s*true", "for\\s*\\(\\s*;", "\\bprotected\\b", "\\bvar\\b"};
        for (String word : forbidden) {
            Due.holds(!Pattern.compile(word).matcher(code).find(), "the source has " + word);
        }
        Matcher library = Pattern.compile("\\b([A-Z][A-Za-z]*[a-z][A-Za-z]*)\\.([a-z][A-Za-z]*)\\(").matcher(code);
        Set<String> allowed = Set.of("Integer.bitCount", "Math.abs", "Math.max", "Math.min", "System.arraycopy",
                "Sieve.result", "Sieve.entry");
        while (library.find()) {
            String call = library.group(1) + "." + library.group(2);
            Due.holds(allowed.contains(call), "the source calls " + call);
        }
    }

    /** A method begins and ends at the same depth, which its indent shows. */
    private static void lengths() throws IOException {
        String[] lines = code().split("\n");
        int start = -1;
        String indent = "";
        for (int i = 0; i < lines.length; i++) {
            Matcher head = Pattern.compile("^( {4}| {8})\\S[^=;]*\\) \\{$").matcher(lines[i]);
            boolean method = head.matches() && !lines[i].trim().matches("(if|for|while|switch|\\}).*");
            if (start < 0 && method) {
                start = i;
                indent = head.group(1);
            } else if (start >= 0 && lines[i].equals(indent + "}")) {
                Due.holds(i - start < 60, "a method of " + (i - start) + " lines: " + lines[start].trim());
                start = -1;
            }
        }
        Due.holds(start < 0, "a method without an end");
    }
}
