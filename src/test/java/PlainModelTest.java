import java.lang.reflect.Method;
import java.util.ArrayList;
import java.util.Comparator;
import java.util.List;
import java.util.Random;

/** Long runs of calls, ordinary and wrong ones, on the class and on the plain model; each must answer alike. */
public final class PlainModelTest {
    private static final int RUNS = 240;
    private static final int CALLS = 512;
    // which part of the face a run calls most
    private static final String[] PARTS = {
        "picture about set say wipe fault law slip cost told",
        "picture set law least kept sure lost image restore",
        "picture width spread set aged take about image restore",
        "picture hide hides cover under image restore",
        "man meet sick from firsts must set told"};

    private final Random random;
    private final String part;
    private final CopiedSkins made = new CopiedSkins();
    private final PlainModel plain = new PlainModel();
    // the model looks at 65536 drawings or 117649 rows in these
    private int dearCalls = 40;
    private int lastMeeting;

    private PlainModelTest(int seed) {
        random = new Random(seed);
        part = PARTS[seed % PARTS.length];
    }

    public static void main(String[] args) throws Exception {
        Due due = new Due();
        List<Method> face = new ArrayList<>();
        for (Method m : CopiedSkins.class.getDeclaredMethods()) {
            if (java.lang.reflect.Modifier.isPublic(m.getModifiers())) {
                face.add(m);
            }
        }
        face.sort(Comparator.comparing(Method::getName));
        for (int seed = 0; seed < RUNS; seed++) {
            new PlainModelTest(seed).run(due, face, seed);
        }
        due.end();
    }

    private void run(Due due, List<Method> face, int seed) throws Exception {
        for (int call = 0; call < CALLS; call++) {
            Method m = face.get(random.nextInt(face.size()));
            for (int more = 0; more < 3 && !(" " + part + " ").contains(" " + m.getName() + " "); more++) {
                m = face.get(random.nextInt(face.size()));
            }
            if ("least kept sure lost cover".contains(m.getName()) && dearCalls-- <= 0) {
                continue;
            }
            if (m.getName().equals("say") && random.nextInt(3) == 0 || m.getName().equals("law")) {
                call += sayLines();
            }
            Object[] arguments = arguments(m);
            int got = (Integer) m.invoke(made, arguments);
            Method same = PlainModel.class.getDeclaredMethod(m.getName(), m.getParameterTypes());
            int want = (Integer) same.invoke(plain, arguments);
            if (got != want) {
                due.is("run " + seed + ", call " + call + " " + m.getName()
                        + java.util.Arrays.toString(arguments), got, want);
                return;
            }
        }
    }

    /** Signs at random are seldom a law. */
    private int sayLines() {
        int said = 0;
        int lines = 1 + random.nextInt(6);
        for (int n = 0; n < lines; n++) {
            String line = (n == 0 ? "" : ";") + "0123*".charAt(random.nextInt(5)) + "0123*".charAt(random.nextInt(5))
                    + "=" + random.nextInt(random.nextBoolean() ? 100 : 8);
            for (int i = 0; i < line.length(); i++) {
                int sign = random.nextInt(60) == 0 ? 33 + random.nextInt(94) : line.charAt(i);
                made.say(sign);
                plain.say(sign);
                said++;
            }
        }
        return said;
    }

    private int from(int low, int high) {
        return low + random.nextInt(high - low + 1);
    }

    private int drawing() {
        if (random.nextBoolean()) {
            return from(0, 65535);
        }
        // few strokes, so that covers and tracings are often near
        return from(0, 3) << 2 * from(0, 7) | from(0, 3) << 2 * from(0, 7);
    }

    private Object[] arguments(Method m) {
        int[] v = usual(m.getName());
        Object[] all = new Object[m.getParameterCount()];
        for (int i = 0; i < all.length; i++) {
            if (random.nextInt(40) == 0) {
                int[] odd = {Integer.MIN_VALUE, Integer.MAX_VALUE, -2, -1, 0, 8, 9, 31, 32, 100, 256, 65536, v[i] + 1,
                    -v[i] - 1, v[i] + 32, 1 << 30};
                v[i] = odd[random.nextInt(odd.length)];
            }
            all[i] = m.getParameterTypes()[i] == boolean.class ? (Object) (v[i] > 0) : (Object) v[i];
        }
        return all;
    }

    private int[] usual(String name) {
        int year = from(0, 99);
        switch (name) {
            case "picture": return new int[] {drawing(), year, from(random.nextInt(9) == 0 ? 0 : year, 99)};
            case "about": return new int[] {from(0, 5), from(0, 3)};
            case "set": {
                int which = from(0, 3);
                return new int[] {which, which < 2 ? from(0, 99) : from(1, random.nextBoolean() ? 30 : 8)};
            }
            case "say": return new int[] {random.nextBoolean() ? "0123*=;9".charAt(from(0, 7)) : from(33, 126)};
            case "slip": return new int[] {from(0, 3), from(0, 3)};
            case "cost": return new int[] {drawing(), drawing()};
            case "least": return new int[] {from(0, 2)};
            case "kept": return new int[] {random.nextBoolean() ? from(0, 99) : from(0, 9),
                random.nextBoolean() ? from(-1, 3) : from(-2, 3000), random.nextInt(3) == 0 ? 9 : from(0, 5)};
            case "sure": return new int[] {random.nextBoolean() ? from(0, 99) : from(0, 3),
                random.nextInt(3) == 0 ? 9 : from(0, 5)};
            case "lost": return new int[] {from(-1, 5), from(0, random.nextBoolean() ? 63 : 7), from(0, 2)};
            case "width": return new int[] {from(0, 5), random.nextBoolean() ? from(0, 999) : from(0, 120)};
            case "spread": {
                int least = random.nextBoolean() ? from(1, 99) : from(1, 9);
                return new int[] {from(0, 1), least, random.nextBoolean() ? from(least, 99) : Math.min(99, least + 2)};
            }
            case "aged": return new int[] {from(0, 5), from(0, 2)};
            case "take": return new int[] {from(0, 5)};
            case "hide": return new int[] {from(0, 7), from(0, 1), from(0, 255) & from(0, 255)};
            case "hides": return new int[] {drawing(), from(0, 1)};
            case "cover": case "under": return new int[] {drawing()};
            case "meet": return new int[] {from(0, 7), laterDay()};
            case "sick": return new int[] {from(0, 7), random.nextInt(12) == 0 ? -1 : from(lastMeeting, lastMeeting + 15)};
            case "from": return new int[] {from(0, 7)};
            case "firsts": return new int[] {from(0, 1)};
            case "must": return new int[] {from(0, 7), from(0, 1)};
            case "image": case "restore": return new int[] {from(0, 1)};
            case "told": return new int[] {from(0, 8)};
            default: return new int[0];
        }
    }

    /** Days near one another, so that sickness can go from man to man. */
    private int laterDay() {
        lastMeeting = Math.min(99, lastMeeting + random.nextInt(4) - (random.nextInt(9) == 0 ? 1 : 0));
        return Math.max(0, lastMeeting);
    }
}
