import java.lang.reflect.Field;
import java.lang.reflect.Method;
import java.lang.reflect.Modifier;
import java.nio.file.Files;
import java.nio.file.Path;
import java.util.ArrayList;
import java.util.List;
import java.util.Set;
import java.util.regex.Matcher;
import java.util.regex.Pattern;

/**
 * Rules of LANGUAGE.md that the text and the fields of the class can show. They are asked for more narrowly than the
 * document does, as the class needs no more: one who needs more widens the list here, within the document's.
 */
public final class RulesTest {
    private static final Due DUE = new Due();
    private static final Set<String> LIBRARY = Set.of("Math.max", "Math.min", "System.arraycopy");
    private static final int MOST_LINES = 60;
    private static final int MOST_PARAMETERS = 7;
    private static final int MOST_CLASSES = 12;
    private static final int MOST_FIELDS = 20;
    private static final Pattern HEAD = Pattern.compile(
            "^( +)((?:(?:public|private|static|final|abstract) )*)[\\w\\[\\]]+ (\\w+)\\([^;]*\\) \\{$");

    public static void main(String[] args) throws Exception {
        List<String> lines = withoutComments(Files.readAllLines(Path.of("src/main/java/CopiedSkins.java")));
        String code = String.join("\n", lines);
        fields();
        methods();
        library(code);
        loops(code);
        bodies(lines);
        parts();
        DUE.end();
    }

    private static List<Class<?>> classes() {
        List<Class<?>> all = new ArrayList<>(List.of(CopiedSkins.class.getDeclaredClasses()));
        all.add(CopiedSkins.class);
        return all;
    }

    private static List<String> withoutComments(List<String> lines) {
        List<String> kept = new ArrayList<>();
        for (String line : lines) {
            String text = line.strip();
            boolean comment = text.startsWith("//") || text.startsWith("/*") || text.startsWith("*");
            kept.add(comment ? "" : line);
        }
        return kept;
    }

    private static void fields() {
        DUE.sentence("rules 3, 5, 11");
        for (Class<?> c : classes()) {
            int own = 0;
            for (Field f : c.getDeclaredFields()) {
                if (Modifier.isStatic(f.getModifiers())) {
                    DUE.holds(f + " is a constant number", Modifier.isFinal(f.getModifiers()) && f.getType() == int.class);
                } else {
                    own++;
                    DUE.holds(f + " is of a type that may be", mayBe(f.getType()));
                }
            }
            DUE.holds(c + " has some twenty fields at most", own <= MOST_FIELDS);
        }
        DUE.holds("some twelve classes at most", classes().size() <= MOST_CLASSES);
    }

    private static boolean mayBe(Class<?> type) {
        Class<?> element = type.isArray() ? type.getComponentType() : type;
        if (element.isArray()) {
            return element.getComponentType() == int.class;
        }
        return element == int.class || element == boolean.class || classes().contains(element);
    }

    private static void methods() {
        DUE.sentence("rule 11");
        for (Class<?> c : classes()) {
            for (Method m : c.getDeclaredMethods()) {
                DUE.holds(m + " takes seven parameters at most", m.getParameterCount() <= MOST_PARAMETERS);
            }
        }
    }

    private static void library(String code) {
        DUE.sentence("rule 4");
        Set<String> own = Set.of("Trees.sourceIn");
        Matcher used = Pattern.compile("\\b[A-Z]\\w*[a-z]\\w*\\.\\w+").matcher(code);
        while (used.find()) {
            DUE.holds(used.group(), LIBRARY.contains(used.group()) || own.contains(used.group()));
        }
        DUE.holds("no texts", code.indexOf('"') < 0);
    }

    /** A loop counts towards a bound that its own line shows. */
    private static void loops(String code) {
        DUE.sentence("rule 9");
        Matcher loop = Pattern.compile("\\b(while|do|for)\\b.*").matcher(code);
        Pattern counted = Pattern.compile("for \\(int (\\w+) = [^;]+; \\1 <=? [^;]+; \\1\\+\\+\\) \\{");
        while (loop.find()) {
            DUE.holds(loop.group() + " counts", counted.matcher(loop.group()).matches());
        }
    }

    /** Methods are short; one that calls itself is private and static and counts its depth by its second argument. */
    private static void bodies(List<String> lines) {
        Set<String> deep = Set.of("grow", "search");
        int found = 0;
        for (int i = 0; i < lines.size(); i++) {
            Matcher head = HEAD.matcher(lines.get(i));
            if (!head.matches()) {
                continue;
            }
            found++;
            int end = i + 1;
            while (end < lines.size() && !lines.get(end).equals(head.group(1) + "}")) {
                end++;
            }
            String name = head.group(3);
            DUE.sentence("rule 11");
            DUE.holds(name + " is short", end - i + 1 <= MOST_LINES);
            DUE.sentence("rule 8");
            String body = String.join("\n", lines.subList(i + 1, Math.min(end, lines.size())));
            Matcher self = Pattern.compile("(?<![\\w.])" + name + "\\(\\w+, (\\w+ \\+ 1|0),").matcher(body);
            boolean callsItself = Pattern.compile("(?<![\\w.])" + name + "\\(").matcher(body).find();
            DUE.holds(name + " calls itself only if it counts its depth", callsItself == deep.contains(name));
            DUE.holds(name + " goes a level deeper", !callsItself || self.find());
            DUE.holds(name + " is private static", !callsItself || head.group(2).equals("private static "));
        }
        DUE.sentence("");
        DUE.holds("methods are found: " + found, found > 80);
    }

    /** The document's interface has five parts; the class tells them in its words, in its order. */
    private static void parts() throws Exception {
        DUE.sentence("Ahead of the calls .. the interface says");
        String code = Files.readString(Path.of("src/main/java/CopiedSkins.java"));
        String[] order = {
            "// ---- 1 pictures, the law", "picture", "about", "set", "say", "wipe", "fault", "law", "slip", "cost",
            "// ---- 2 trees", "least", "kept", "sure", "lost",
            "// ---- 3 ages", "width", "spread", "aged", "take",
            "// ---- 4 covers", "hide", "hides", "cover", "under",
            "// ---- 5 the needle", "man", "meet", "sick", "from", "firsts", "must", "image", "restore", "told"};
        int last = -1;
        for (String mark : order) {
            int place = code.indexOf(mark.startsWith("//") ? mark : "public int " + mark + "(");
            DUE.holds(mark + " stands behind what is told ahead of it", place > last);
            last = place;
        }
    }
}
