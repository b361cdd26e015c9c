import java.lang.reflect.Constructor;
import java.lang.reflect.Field;
import java.lang.reflect.Method;
import java.lang.reflect.Modifier;
import java.nio.file.Files;
import java.nio.file.Path;
import java.util.Set;
import java.util.TreeSet;

/** The public face is the document's and nothing more; the source keeps to rules of LANGUAGE.md that a text can show. */
public final class FaceTest {
    private static final String[] FACE = {
        "about(int,int)", "aged(int,int)", "cost(int,int)", "cover(int)", "fault()", "firsts(int)", "from(int)",
        "hide(int,boolean,int)", "hides(int,int)", "image(int)", "kept(int,int,int)", "law()", "least(int)",
        "lost(int,int,int)", "man()", "meet(int,int)", "must(int,int)", "picture(int,int,int)", "restore(int)",
        "say(int)", "set(int,int)", "sick(int,int)", "slip(int,int)", "spread(int,int,int)", "sure(int,int)",
        "take(int)", "told(int)", "under(int)", "width(int,int)", "wipe()"};

    public static void main(String[] args) throws Exception {
        Due due = new Due();
        constants(due);
        methods(due);
        nested(due);
        source(due);
        due.end();
    }

    private static void constants(Due due) throws Exception {
        due.is("NONE", CopiedSkins.NONE, -6);
        due.is("UNKNOWN", CopiedSkins.UNKNOWN, -1);
        due.is("OUTSIDE", CopiedSkins.OUTSIDE, -2);
        due.is("STATE", CopiedSkins.STATE, -3);
        due.is("FULL", CopiedSkins.FULL, -4);
        due.is("NO", CopiedSkins.NO, -5);
        Set<String> open = new TreeSet<>();
        for (Field f : CopiedSkins.class.getDeclaredFields()) {
            if (!Modifier.isPrivate(f.getModifiers())) {
                open.add(f.getName());
                due.holds(f.getName() + " is public static final int", f.getType() == int.class
                        && f.getModifiers() == (Modifier.PUBLIC | Modifier.STATIC | Modifier.FINAL));
            }
        }
        due.holds("constants " + open, open.equals(new TreeSet<>(
                java.util.List.of("NONE", "UNKNOWN", "OUTSIDE", "STATE", "FULL", "NO"))));
    }

    private static void methods(Due due) {
        Class<?> c = CopiedSkins.class;
        due.holds("the class is public and final", c.getModifiers() == (Modifier.PUBLIC | Modifier.FINAL));
        Constructor<?>[] made = c.getDeclaredConstructors();
        due.holds("one public constructor without arguments", made.length == 1
                && made[0].getParameterCount() == 0 && made[0].getModifiers() == Modifier.PUBLIC);
        Set<String> open = new TreeSet<>();
        for (Method m : c.getDeclaredMethods()) {
            if (!Modifier.isPrivate(m.getModifiers())) {
                open.add(signature(m));
                due.holds(m.getName() + " is public and answers an int",
                        m.getModifiers() == Modifier.PUBLIC && m.getReturnType() == int.class);
            }
        }
        due.holds("methods " + open, open.equals(new TreeSet<>(java.util.List.of(FACE))));
    }

    private static String signature(Method m) {
        StringBuilder text = new StringBuilder(m.getName()).append('(');
        for (Class<?> type : m.getParameterTypes()) {
            text.append(text.charAt(text.length() - 1) == '(' ? "" : ",").append(type.getName());
        }
        return text.append(')').toString();
    }

    private static void nested(Due due) {
        Set<String> names = new TreeSet<>();
        for (String signature : FACE) {
            names.add(signature.substring(0, signature.indexOf('(')));
        }
        due.holds("at most twelve classes", CopiedSkins.class.getDeclaredClasses().length < 12);
        for (Class<?> inside : CopiedSkins.class.getDeclaredClasses()) {
            due.holds(inside + " is static and not public", Modifier.isStatic(inside.getModifiers())
                    && !Modifier.isPublic(inside.getModifiers()));
            for (Method m : inside.getDeclaredMethods()) {
                due.holds(m + " bears no name of the face", !names.contains(m.getName()));
            }
        }
        for (Method m : CopiedSkins.class.getDeclaredMethods()) {
            due.holds(m + " bears no name of the face",
                    !Modifier.isPrivate(m.getModifiers()) || !names.contains(m.getName()));
        }
    }

    private static void source(Due due) throws Exception {
        String code = Files.readString(Path.of("src/main/java/CopiedSkins.java"));
        String[] barred = {"package ", "import ", "->", "::", "catch", "finally", "synchronized", "assert ",
            "Exact", "System.out", "static {", "double", "float", "String", "java.util", "throw "};
        for (String word : barred) {
            due.holds("the source has no " + word, !code.contains(word));
        }
    }
}
