import java.lang.reflect.Constructor;
import java.lang.reflect.Field;
import java.lang.reflect.Method;
import java.lang.reflect.Modifier;
import java.nio.file.Files;
import java.nio.file.Path;
import java.util.HashSet;
import java.util.List;
import java.util.Set;
import java.util.TreeSet;
import java.util.regex.Matcher;
import java.util.regex.Pattern;

/** The public face is the document's, and the source keeps to those rules of LANGUAGE.md that a text can show. */
public final class FaceTest {
    private static final String FACE = "ahead/3 alter/3 avoid/1 back/0 count/1 fault/0 filed/1 first/0 forget/0 habit/3 "
        + "keep/0 kind/1 laws/2 lay/0 least/4 leave/2 mean/1 meets/3 often/2 pass/1 permit/2 stamp/3 sure/2 together/4 "
        + "undo/0 watch/1 ways/1 where/3 wipe/0 write/1";
    private static final String[] FORBIDDEN = {
        "\\bthrow\\b", "\\btry\\b", "\\bcatch\\b", "\\bsynchronized\\b", "\\bassert\\b", "->", "::", "Exact\\b",
        "\\bequals\\b", "\\bhashCode\\b", "\\btoString\\b", "\\bpackage\\b", "\\bprotected\\b", "\\bRandom\\b",
        "\\bSystem\\.(?!arraycopy)", "\\bThread\\b", "static\\s*\\{"};
    /** Rule 4, as far as the class has use for it. */
    private static final Set<String> LIBRARY =
        Set.of("Math.max", "Math.min", "Math.abs", "Integer.bitCount", "Arrays.fill", "System.arraycopy");
    private static final Pattern METHOD = Pattern.compile("( {4}| {8})(?!for|if|while|switch|else)[^ /*].*\\) \\{");
    private static final Path SOURCE = Path.of("src/main/java/CoincidenceBureau.java");
    private static final Checks checks = new Checks();

    public static void main(String[] args) throws Exception {
        face();
        constants();
        nested();
        sizes(CoincidenceBureau.class);
        source();
        methodLengths();
        checks.end("FaceTest");
    }

    private static void face() {
        Class<?> face = CoincidenceBureau.class;
        Set<String> open = new TreeSet<>();
        Set<String> hidden = new HashSet<>();
        for (Method m : face.getDeclaredMethods()) {
            if (Modifier.isPrivate(m.getModifiers())) {
                hidden.add(m.getName());
                continue;
            }
            open.add(m.getName() + "/" + m.getParameterCount());
            checks.holds(m.getName() + " is public", Modifier.isPublic(m.getModifiers()));
            checks.holds(m.getName() + " answers an int", m.getReturnType() == int.class);
            for (Class<?> type : m.getParameterTypes()) {
                checks.holds(m.getName() + " takes ints", type == int.class);
            }
        }
        checks.holds("the face: " + open, String.join(" ", open).equals(FACE));
        for (String name : hidden) {
            checks.holds(name + " is no public name", !(" " + FACE).contains(" " + name + "/"));
        }
        Constructor<?>[] made = face.getDeclaredConstructors();
        checks.due("constructors", made.length, 1);
        checks.holds("a public constructor", Modifier.isPublic(made[0].getModifiers()) && made[0].getParameterCount() == 0);
        checks.holds("public and final", Modifier.isPublic(face.getModifiers()) && Modifier.isFinal(face.getModifiers()));
    }

    private static void constants() {
        checks.due("BAD", CoincidenceBureau.BAD, -1);
        checks.due("NO", CoincidenceBureau.NO, -2);
        checks.due("FULL", CoincidenceBureau.FULL, -3);
        checks.due("NONE", CoincidenceBureau.NONE, -4);
        Set<String> open = new TreeSet<>();
        for (Field f : CoincidenceBureau.class.getDeclaredFields()) {
            if (!Modifier.isPrivate(f.getModifiers())) {
                open.add(f.getName());
            }
        }
        checks.holds("public fields: " + open, String.join(" ", open).equals("BAD FULL NO NONE"));
    }

    private static void nested() {
        Class<?>[] inside = CoincidenceBureau.class.getDeclaredClasses();
        checks.holds("at most twelve classes", inside.length <= 11);
        for (Class<?> c : inside) {
            checks.holds(c + " is static", Modifier.isStatic(c.getModifiers()));
            checks.holds(c + " is not public", !Modifier.isPublic(c.getModifiers()));
            for (Method m : c.getDeclaredMethods()) {
                checks.holds(c + "." + m.getName() + " is no public name", !(" " + FACE).contains(" " + m.getName() + "/"));
            }
            for (Field f : c.getDeclaredFields()) {
                boolean fixed = !Modifier.isStatic(f.getModifiers()) || Modifier.isFinal(f.getModifiers());
                checks.holds(c + "." + f.getName() + " is no static state", fixed);
            }
        }
    }

    /** Rule 11: seven parameters, some twenty fields beside the constants. */
    private static void sizes(Class<?> c) {
        int fields = 0;
        for (Field f : c.getDeclaredFields()) {
            fields += Modifier.isStatic(f.getModifiers()) ? 0 : 1;
        }
        checks.holds(c + " has at most twenty fields", fields <= 20);
        for (Method m : c.getDeclaredMethods()) {
            checks.holds(c + "." + m.getName() + " takes at most seven numbers", m.getParameterCount() <= 7);
        }
        for (Class<?> inside : c.getDeclaredClasses()) {
            sizes(inside);
        }
    }

    /** Rule 11: some sixty lines; a method ends where a brace closes as far in as its own line begins. */
    private static void methodLengths() throws Exception {
        List<String> lines = Files.readAllLines(SOURCE);
        int found = 0;
        for (int k = 0; k < lines.size(); k++) {
            Matcher m = METHOD.matcher(lines.get(k));
            if (!m.matches()) {
                continue;
            }
            found++;
            int end = k + 1;
            while (end < lines.size() && !lines.get(end).equals(m.group(1) + "}")) {
                end++;
            }
            checks.holds("at most sixty lines: " + m.group().trim(), end < lines.size() && end - k < 60);
        }
        checks.holds("methods are found: " + found, found > FACE.split(" ").length);
    }

    private static void source() throws Exception {
        String code = Files.readString(SOURCE);
        String bare = code.replaceAll("(?s)/\\*.*?\\*/", " ").replaceAll("//[^\n]*", " ").replaceAll("\"[^\"\n]*\"", "\"\"");
        for (String word : FORBIDDEN) {
            checks.holds("without " + word, !Pattern.compile(word).matcher(bare).find());
        }
        Matcher library = Pattern.compile("\\b(Math|Integer|Long|Arrays|System|String)\\.\\w+").matcher(bare);
        while (library.find()) {
            checks.holds("of the library: " + library.group(), LIBRARY.contains(library.group()));
        }
        Matcher imports = Pattern.compile("import [^;]*;").matcher(bare);
        while (imports.find()) {
            checks.holds(imports.group(), imports.group().equals("import java.util.Arrays;"));
        }
        checks.holds("signs of the source", code.chars().allMatch(c -> c == '\n' || c >= 32 && c <= 126));
    }
}
