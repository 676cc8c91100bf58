import java.lang.reflect.Constructor;
import java.lang.reflect.Field;
import java.lang.reflect.Method;
import java.lang.reflect.Modifier;
import java.nio.file.Files;
import java.nio.file.Path;
import java.util.ArrayList;
import java.util.Arrays;
import java.util.List;
import java.util.Set;
import java.util.TreeSet;
import java.util.regex.Matcher;
import java.util.regex.Pattern;

/** What of LANGUAGE.md can be seen from the file and its classes: the face, forbidden words, sizes. */
public final class LanguageTest {
    private static final List<String> FACE = List.of("feed/5", "end/1", "land/0", "fault/1", "has/1", "letter/3", "cell/3", "bell/2",
        "walker/2", "told/2", "hunt/2", "meets/1", "safe/1", "peal/0", "rest/0", "later/2", "chapel/2", "first/1", "see/0", "began/1",
        "tells/1", "ring/2", "does/2", "nights/1", "chance/1", "undo/0", "seed/1", "ask/0", "image/0", "octet/1", "on/0", "status/1");
    private static final Set<String> BOOLEAN = Set.of("end", "ring", "does", "undo", "seed", "on");
    private static final List<String> FORBIDDEN = List.of("\\bthrow\\b", "\\bthrows\\b", "\\btry\\b", "\\bcatch\\b", "\\bassert\\b",
        "\\bsynchronized\\b", "\\bimport\\b", "\\bpackage\\b", "->", "::", "\\bObject\\b", "\\bSystem\\.(?!arraycopy)", "\\bThread\\b",
        "\\bRandom\\b", "Exact\\(", "\\bnull\\b", "\\bprotected\\b", "\\bstatic \\{", "\\bhashCode\\b", "\\btoString\\b");
    private static int wrong = 0;

    private static void check(String what, boolean good) {
        if (!good) {
            wrong++;
            System.out.println("language: " + what);
        }
    }

    public static void main(String[] args) throws Exception {
        face();
        classes();
        String source = Files.readString(Path.of("src/main/java/WildHunt.java"));
        words(source);
        sizes(source);
        System.out.println(wrong == 0 ? "within the language" : wrong + " rules broken");
        if (wrong != 0) {
            System.exit(1);
        }
    }

    private static void face() {
        check("the class is public and final", Modifier.isPublic(WildHunt.class.getModifiers()) && Modifier.isFinal(WildHunt.class.getModifiers()));
        Set<String> methods = new TreeSet<>();
        Set<String> names = new TreeSet<>();
        for (Method m : WildHunt.class.getDeclaredMethods()) {
            if (Modifier.isPublic(m.getModifiers())) {
                methods.add(m.getName() + "/" + m.getParameterCount());
                names.add(m.getName());
                Class<?> due = BOOLEAN.contains(m.getName()) ? boolean.class : m.getName().equals("ask") ? long.class : int.class;
                check("answer of " + m.getName(), m.getReturnType() == due);
                check("numbers for " + m.getName(), Arrays.stream(m.getParameterTypes()).allMatch(t -> t == int.class));
            } else {
                check(m.getName() + " is private", Modifier.isPrivate(m.getModifiers()));
            }
        }
        check("methods " + methods, methods.equals(new TreeSet<>(FACE)));
        for (Method m : WildHunt.class.getDeclaredMethods()) {
            check(m.getName() + " bears a public name", Modifier.isPublic(m.getModifiers()) || !names.contains(m.getName()));
        }
        for (Class<?> c : WildHunt.class.getDeclaredClasses()) {
            for (Method m : c.getDeclaredMethods()) {
                check(c.getName() + "." + m.getName() + " bears a public name", !names.contains(m.getName()));
            }
        }
        Constructor<?>[] made = WildHunt.class.getDeclaredConstructors();
        check("one public constructor", made.length == 1 && Modifier.isPublic(made[0].getModifiers()) && made[0].getParameterCount() == 0);
        Set<String> constants = new TreeSet<>();
        for (Field f : WildHunt.class.getDeclaredFields()) {
            if (!Modifier.isPrivate(f.getModifiers())) {
                constants.add(f.getName());
            }
        }
        check("constants " + constants, constants.equals(Set.of("NONE", "NOTHING")));
    }

    private static void classes() {
        List<Class<?>> all = new ArrayList<>(List.of(WildHunt.class.getDeclaredClasses()));
        check("twelve classes inside at most", all.size() <= 12);
        all.add(WildHunt.class);
        for (Class<?> c : all) {
            check(c.getName() + " is static", c == WildHunt.class || Modifier.isStatic(c.getModifiers()));
            int fields = 0;
            for (Field f : c.getDeclaredFields()) {
                boolean fixed = Modifier.isStatic(f.getModifiers());
                fields += fixed ? 0 : 1;
                check(c.getName() + "." + f.getName() + " is final", !fixed || Modifier.isFinal(f.getModifiers()));
            }
            check(c.getName() + " has " + fields + " fields", fields <= 21);
            for (Method m : c.getDeclaredMethods()) {
                check(m.getName() + " has too many parameters", m.getParameterCount() <= 7);
            }
        }
    }

    private static void words(String source) {
        String code = source.replaceAll("(?s)/\\*.*?\\*/", "").replaceAll("//[^\n]*", "").replaceAll("\"[^\"\n]*\"", "\"\"");
        for (String word : FORBIDDEN) {
            Matcher m = Pattern.compile(word).matcher(code);
            check("forbidden: " + word, !m.find());
        }
        check("texts joined by +", !Pattern.compile("\"\\s*\\+|\\+\\s*\"").matcher(code).find());
        check("signs 1 to 127 alone", source.chars().allMatch(c -> c == 10 || c >= 32 && c < 127));
    }

    private static void sizes(String source) {
        String[] lines = source.split("\n");
        int from = -1;
        String indent = "";
        for (int k = 0; k < lines.length; k++) {
            Matcher m = Pattern.compile("^( {4}| {8})[A-Za-z][\\w\\[\\] ]*\\(.*\\) \\{$").matcher(lines[k]);
            if (from < 0 && m.find()) {
                from = k;
                indent = m.group(1);
            } else if (from >= 0 && lines[k].equals(indent + "}")) {
                check("method at line " + (from + 1) + " has " + (k - from + 1) + " lines", k - from + 1 <= 60);
                from = -1;
            }
        }
        check("methods were found", lines.length > 0 && from < 0);
    }
}
