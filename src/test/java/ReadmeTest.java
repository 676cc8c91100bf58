import java.lang.reflect.Method;
import java.lang.reflect.Modifier;
import java.nio.file.Files;
import java.nio.file.Path;
import java.util.regex.Matcher;
import java.util.regex.Pattern;

/** README.md's example, line by line, against what stands behind its calls; and its table against the face. */
public final class ReadmeTest {
    private static final Pattern PUT = Pattern.compile("^put\\(x, \"([^\"]*)\"\\);$");
    private static final Pattern CALL = Pattern.compile("^x\\.(\\w+)\\(([-\\d, ]*)\\); +// (true|false|-?\\d+)\\b.*$");

    public static void main(String[] args) throws Exception {
        String readme = Files.readString(Path.of("README.md"));
        example(readme);
        table(readme);
        Hand.end();
    }

    private static void example(String readme) throws Exception {
        Hand.at("README.md, the example");
        int from = readme.indexOf("WildHunt x = new WildHunt();");
        String block = readme.substring(from, readme.indexOf("```", from));
        WildHunt x = new WildHunt();
        String[] lines = block.split("\n");
        Hand.due("lines of the example", lines.length > 10, true);
        for (int k = 1; k < lines.length; k++) {
            Matcher put = PUT.matcher(lines[k]);
            Matcher call = CALL.matcher(lines[k]);
            if (put.matches()) {
                Hand.put(x, put.group(1));
            } else if (call.matches()) {
                Hand.due(lines[k], answer(x, call.group(1), call.group(2)), number(call.group(3)));
            } else {
                Hand.due("a line that is a call: " + lines[k], false, true);
            }
        }
    }

    private static long number(Object answer) {
        String text = answer.toString();
        return text.equals("true") ? 1 : text.equals("false") ? 0 : Long.parseLong(text);
    }

    private static long answer(WildHunt x, String name, String listed) throws Exception {
        String[] given = listed.isBlank() ? new String[0] : listed.split(", ");
        Object[] numbers = new Object[given.length];
        Class<?>[] types = new Class<?>[given.length];
        for (int k = 0; k < given.length; k++) {
            numbers[k] = Integer.parseInt(given[k]);
            types[k] = int.class;
        }
        return number(WildHunt.class.getMethod(name, types).invoke(x, numbers));
    }

    private static void table(String readme) {
        Hand.at("README.md, the table");
        String rows = readme.substring(readme.indexOf("| calls |"), readme.indexOf("## Tests"));
        for (Method m : WildHunt.class.getDeclaredMethods()) {
            if (Modifier.isPublic(m.getModifiers())) {
                Hand.due(m.getName() + " stands in it", rows.contains("`" + m.getName() + "`"), true);
            }
        }
    }
}
