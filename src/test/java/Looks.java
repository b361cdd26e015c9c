import java.util.ArrayList;
import java.util.List;

/**
 * All that can be asked of an object, a line a call. It asks first and changes then, since some things are told only
 * by the call that changes them: two objects that hold the same give the same lines, others do not.
 */
final class Looks {
    // an object is promised for 512 calls: the rest is for the scene ahead of the look
    private static final int MOST_CALLS = 340;

    private final CopiedSkins x;
    private final List<String> lines = new ArrayList<>();

    private Looks(CopiedSkins x) {
        this.x = x;
    }

    static List<String> at(CopiedSkins x) {
        Looks looks = new Looks(x);
        looks.album();
        looks.trees();
        looks.ages();
        looks.needle();
        looks.text();
        looks.meetingsAndDays();
        looks.spansAndHides();
        for (int n = 0; n < 2; n++) {
            looks.ask("restore", n);
            looks.album();
            looks.ask("cost", 27, 57);
            looks.spansAndHides();
        }
        if (looks.lines.size() > MOST_CALLS) {
            throw new IllegalStateException("a look of " + looks.lines.size() + " calls");
        }
        return looks.lines;
    }

    private void ask(String name, Object... arguments) {
        lines.add(Face.told(name, arguments) + " answers " + Face.call(x, name, arguments));
    }

    private void album() {
        for (int what = 0; what < 9; what++) {
            ask("told", what);
        }
        for (int p = 0; p < 6; p++) {
            for (int what = 0; what < 4; what++) {
                ask("about", p, what);
            }
        }
        slips();
    }

    private void slips() {
        for (int a = 0; a < 4; a++) {
            for (int b = 0; b < 4; b++) {
                if (a != b) {
                    ask("slip", a, b);
                }
            }
        }
    }

    private void trees() {
        for (int what = 0; what < 3; what++) {
            ask("least", what);
            ask("lost", -1, 1, what);
            ask("lost", 1, 5, what);
        }
        ask("kept", 9, -1, 0);
        for (int p = 0; p < 6; p++) {
            ask("kept", 9, 1, p);
        }
        ask("sure", 3, 9);
        ask("sure", 3, 0);
    }

    private void ages() {
        for (int p = 0; p < 6; p++) {
            ask("aged", p, 0);
            ask("aged", p, 2);
        }
        ask("cover", 21845);
        ask("under", 57);
    }

    private void needle() {
        ask("firsts", 0);
        ask("firsts", 1);
        for (int m = 0; m < 8; m++) {
            ask("from", m);
            ask("must", m, 0);
        }
    }

    private void text() {
        ask("fault");
        ask("say", (int) '5');
        ask("law");
        slips();
        ask("wipe");
    }

    /** The scenes' last meeting is on day 50, where they have one. */
    private void meetingsAndDays() {
        ask("meet", 0, 49);
        ask("meet", 0, 50);
        for (int m = 0; m < 8; m++) {
            ask("sick", m, -1);
        }
        ask("man");
    }

    private void spansAndHides() {
        ask("spread", 0, 1, 1);
        ask("spread", 1, 1, 1);
        for (int s = 0; s < 8; s++) {
            ask("hide", s, false, 0);
            ask("hide", s, true, 0);
        }
    }
}
