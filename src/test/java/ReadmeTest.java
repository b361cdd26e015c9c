import java.lang.reflect.Field;
import java.lang.reflect.Method;
import java.lang.reflect.Modifier;
import java.nio.file.Files;
import java.nio.file.Path;
import java.util.regex.Matcher;
import java.util.regex.Pattern;
import java.util.stream.Stream;

/** What README.md shows is so: each call of its example answers the number behind it, and nothing is left out. */
public final class ReadmeTest {
    private static final Pattern CALL = Pattern.compile("x\\.(\\w+)\\(([^)]*)\\); +// (-?\\d+).*");
    private static final Pattern SIGNS = Pattern.compile("for \\(char sign : \"(.*)\"\\.toCharArray\\(\\)\\).*");
    private static final Due DUE = new Due();

    public static void main(String[] args) throws Exception {
        String page = Files.readString(Path.of("README.md"));
        example(page);
        face(page);
        refusals(page);
        tests(page);
        DUE.end();
    }

    private static void example(String page) {
        int start = page.indexOf("```java\n");
        int end = page.indexOf("```\n", start + 1);
        if (start < 0 || end < 0) {
            DUE.holds("README.md has an example", false);
            return;
        }
        CopiedSkins x = new CopiedSkins();
        int calls = 0;
        for (String line : page.substring(start, end).split("\n")) {
            Matcher call = CALL.matcher(line);
            Matcher signs = SIGNS.matcher(line);
            if (signs.matches()) {
                Due.say(x, signs.group(1));
            } else if (call.matches()) {
                int got = Face.call(x, call.group(1), arguments(call.group(2)));
                DUE.is("the example's " + line, got, Integer.parseInt(call.group(3)));
                calls++;
            } else {
                DUE.holds("the example's line can be read: " + line, !line.startsWith("x."));
            }
        }
        DUE.holds("the example has calls", calls > 30);
    }

    private static Object[] arguments(String list) {
        if (list.isEmpty()) {
            return new Object[0];
        }
        String[] words = list.split(", ");
        Object[] all = new Object[words.length];
        for (int i = 0; i < words.length; i++) {
            boolean truth = words[i].equals("true") || words[i].equals("false");
            all[i] = truth ? (Object) Boolean.valueOf(words[i]) : (Object) Integer.valueOf(words[i]);
        }
        return all;
    }

    /** The table of calls has a row for each, with as many arguments as it takes. */
    private static void face(String page) {
        for (Method m : CopiedSkins.class.getDeclaredMethods()) {
            if (Modifier.isPublic(m.getModifiers())) {
                String[] words = new String[m.getParameterCount()];
                java.util.Arrays.fill(words, "\\w+");
                Pattern row = Pattern.compile("^\\| `" + m.getName() + "\\(" + String.join(", ", words) + "\\)` \\|",
                        Pattern.MULTILINE);
                DUE.holds("README.md has a row for " + m.getName(), row.matcher(page).find());
            }
        }
    }

    private static void refusals(String page) throws Exception {
        for (Field f : CopiedSkins.class.getDeclaredFields()) {
            if (Modifier.isPublic(f.getModifiers())) {
                String row = "\n| `" + f.getName() + "` " + f.getInt(null) + " |";
                DUE.holds("README.md has a row for " + f.getName(), page.contains(row));
            }
        }
        int last = -1;
        for (String name : new String[] {"UNKNOWN", "OUTSIDE", "STATE", "NO", "FULL"}) {
            int place = page.indexOf("\n| `" + name + "` ");
            DUE.holds(name + " stands in the order in which grounds are answered", place > last);
            last = place;
        }
    }

    private static void tests(String page) throws Exception {
        try (Stream<Path> files = Files.list(Path.of("src/test/java"))) {
            files.forEach(file -> {
                String name = file.getFileName().toString().replace(".java", "");
                DUE.holds("README.md tells of " + name, page.contains("`" + name + "`") || page.contains("`" + name + "."));
            });
        }
        DUE.holds("README.md says how to run the tests", page.contains("\n.ci/run\n"));
    }
}
