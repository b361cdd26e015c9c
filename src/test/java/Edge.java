import java.util.List;

/** Tests of single sentences of the document: answers at the edges, refused calls and what stands behind them. */
final class Edge {
    private final Due due = new Due();

    void sentence(String words) {
        due.sentence(words);
    }

    void end() {
        due.end();
    }

    void is(String what, int got, int want) {
        due.is(what, got, want);
    }

    void answers(CopiedSkins x, int want, String name, Object... arguments) {
        due.is(Face.told(name, arguments), Face.call(x, name, arguments), want);
    }

    /** The call is refused so in each of the scenes, and all others answer as if it had not been made. */
    void refused(int want, List<Scene> scenes, String name, Object... arguments) {
        for (Scene scene : scenes) {
            CopiedSkins x = scene.make();
            due.is(scene + ": " + Face.told(name, arguments), Face.call(x, name, arguments), want);
            isAsBefore(scene, x, Face.told(name, arguments));
        }
    }

    /** The call only asks: all others answer as if it had not been made. */
    void onlyAsks(List<Scene> scenes, String name, Object... arguments) {
        for (Scene scene : scenes) {
            CopiedSkins x = scene.make();
            Face.call(x, name, arguments);
            isAsBefore(scene, x, Face.told(name, arguments));
        }
    }

    private void isAsBefore(Scene scene, CopiedSkins x, String call) {
        List<String> got = Looks.at(x);
        List<String> want = scene.looks();
        for (int i = 0; i < want.size(); i++) {
            if (!got.get(i).equals(want.get(i))) {
                due.holds(scene + ": behind " + call + " " + got.get(i) + ", without it " + want.get(i), false);
                return;
            }
        }
    }

    /**
     * The argument at a place may be low to high: not refused so at both ends; refused so just beyond them, far
     * beyond them, at the least and the greatest int, and where lower bits alone would be within.
     */
    void bounds(int want, List<Scene> scenes, int place, int low, int high, String name, Object... arguments) {
        Object[] all = arguments.clone();
        int[] tried = {Integer.MIN_VALUE, Integer.MIN_VALUE + low, -65536 + low, low - 1, high + 1, low + 32,
            low + 256, low + 65536, Integer.MAX_VALUE};
        for (int v : tried) {
            if (v < low || v > high) {
                all[place] = v;
                refused(want, scenes, name, all);
            }
        }
        for (int v : new int[] {low, high}) {
            all[place] = v;
            for (Scene scene : scenes) {
                int got = Face.call(scene.make(), name, all);
                due.holds(scene + ": " + Face.told(name, all) + " answered " + got, got != want);
            }
        }
    }
}
