import java.util.List;

/** The edges of promises 29 and 30, and of what the terms say of all calls: images, refusals, 512 calls. */
public final class EdgesImagesTest {
    private static final Edge EDGE = new Edge();
    private static final List<Scene> ALL = List.of(Scene.values());
    private static final List<Scene> EMPTY = List.of(Scene.EMPTY);
    private static final List<Scene> HALF = List.of(Scene.HALF);
    private static final int OUTSIDE = CopiedSkins.OUTSIDE, STATE = CopiedSkins.STATE, NONE = CopiedSkins.NONE;
    private static final int CALLS = 512;

    public static void main(String[] args) {
        constants();
        imageOutside();
        restoreOutside();
        restoreState();
        imageOfNothing();
        imageOfAllThatIsFull();
        imageKeepsPictures();
        imageKeepsWidthsAndYears();
        imageKeepsTheLaw();
        imageKeepsWhatSetTold();
        imageKeepsWhatSpreadTold();
        imageKeepsWhatHideTold();
        imageLeavesTheRest();
        imageKeptAnew();
        imagesAreTwo();
        imageIsNotTheObject();
        restoreTwice();
        callsThatOnlyAsk();
        aRunOf512Signs();
        aRunOf512Trees();
        aRunOf512Images();
        aRunOf512Refusals();
        EDGE.end();
    }

    private static void constants() {
        EDGE.sentence("Terms: NONE -6, UNKNOWN -1, OUTSIDE -2, STATE -3, FULL -4, NO -5");
        EDGE.is("NONE", CopiedSkins.NONE, -6);
        EDGE.is("UNKNOWN", CopiedSkins.UNKNOWN, -1);
        EDGE.is("OUTSIDE", CopiedSkins.OUTSIDE, -2);
        EDGE.is("STATE", CopiedSkins.STATE, -3);
        EDGE.is("FULL", CopiedSkins.FULL, -4);
        EDGE.is("NO", CopiedSkins.NO, -5);
    }

    // ---- promises 29 and 30

    private static void imageOutside() {
        EDGE.sentence("29: an IMAGE (0, 1): 1; OUTSIDE");
        EDGE.bounds(OUTSIDE, ALL, 0, 0, 1, "image", 0);
        CopiedSkins x = new CopiedSkins();
        EDGE.answers(x, 1, "image", 0);
        EDGE.answers(x, 1, "image", 1);
        EDGE.answers(x, 1, "image", 1);
    }

    private static void restoreOutside() {
        EDGE.sentence("30: an IMAGE (0, 1); OUTSIDE");
        EDGE.bounds(OUTSIDE, ALL, 0, 0, 1, "restore", 0);
        EDGE.sentence("30: OUTSIDE is answered ahead of STATE");
        EDGE.refused(OUTSIDE, EMPTY, "restore", 2);
        EDGE.refused(OUTSIDE, EMPTY, "restore", -1);
    }

    private static void restoreState() {
        EDGE.sentence("30: STATE: it was not (kept)");
        EDGE.refused(STATE, EMPTY, "restore", 0);
        EDGE.refused(STATE, EMPTY, "restore", 1);
        EDGE.refused(STATE, HALF, "restore", 1);
        CopiedSkins x = new CopiedSkins();
        x.image(1);
        EDGE.answers(x, STATE, "restore", 0);
        EDGE.answers(x, 1, "restore", 1);
        x.image(2);
        x.image(-1);
        EDGE.answers(x, STATE, "restore", 0);
    }

    private static void imageOfNothing() {
        EDGE.sentence("30: as they were: nothing");
        CopiedSkins x = new CopiedSkins();
        x.image(0);
        fill(x, 3);
        EDGE.answers(x, 1, "restore", 0);
        int[] want = {0, 0, 0, 0, 0, 20, 99, 10, 10};
        for (int what = 0; what < want.length; what++) {
            EDGE.answers(x, want[what], "told", what);
        }
        EDGE.answers(x, CopiedSkins.UNKNOWN, "about", 0, 0);
        EDGE.answers(x, STATE, "least", 0);
        EDGE.answers(x, 10, "slip", 0, 1);
        EDGE.answers(x, 1010, "spread", 0, 1, 1);
        EDGE.answers(x, 101, "spread", 1, 1, 1);
        EDGE.answers(x, 4, "hide", 2, false, 0);
        EDGE.answers(x, 8, "hide", 3, true, 0);
    }

    private static void imageOfAllThatIsFull() {
        EDGE.sentence("30: as they were: six PICTURES, ten LINES");
        CopiedSkins x = new CopiedSkins();
        Due.law(x, "01=1;".repeat(9) + "23=98");
        for (int p = 0; p < 6; p++) {
            x.picture(9871 * p, p, 90 + p);
            x.width(p, 994 + p);
        }
        x.image(1);
        fill(x, 2);
        for (int p = 0; p < 6; p++) {
            x.width(p, 0);
        }
        x.restore(1);
        for (int p = 0; p < 6; p++) {
            EDGE.answers(x, 9871 * p, "about", p, 0);
            EDGE.answers(x, p, "about", p, 1);
            EDGE.answers(x, 90 + p, "about", p, 2);
            EDGE.answers(x, 994 + p, "about", p, 3);
        }
        EDGE.answers(x, 10, "told", 2);
        EDGE.answers(x, 98, "slip", 2, 3);
        EDGE.answers(x, CopiedSkins.FULL, "picture", 0, 0, 0);
    }

    /** One picture more and all else told otherwise, by a number from 1 to 9. */
    private static void fill(CopiedSkins x, int k) {
        x.picture(k, k, 50 + k);
        x.width(0, 60 + k);
        Due.law(x, "01=1;".repeat(k) + "23=" + k);
        Scene.setAll(x, k, 10 + k, k + 1, k + 2);
        x.spread(0, k, 10 + k);
        x.spread(1, k, 20 + k);
        x.hide(2, false, k);
        x.hide(3, true, 30 + k);
    }

    private static void imageKeepsPictures() {
        EDGE.sentence("29: PICTURES");
        CopiedSkins x = new CopiedSkins();
        fill(x, 1);
        x.image(0);
        fill(x, 2);
        fill(x, 3);
        EDGE.answers(x, 3, "told", 0);
        x.restore(0);
        EDGE.answers(x, 1, "told", 0);
        EDGE.answers(x, 1, "about", 0, 0);
        EDGE.answers(x, CopiedSkins.UNKNOWN, "about", 1, 0);
        EDGE.answers(x, 1, "picture", 77, 7, 8);
        EDGE.answers(x, 77, "about", 1, 0);
        EDGE.sentence("29: PICTURES, though others had their numbers since");
        CopiedSkins y = new CopiedSkins();
        y.image(0);
        y.picture(11, 1, 2);
        y.image(1);
        y.restore(0);
        EDGE.answers(y, 0, "picture", 22, 3, 4);
        y.restore(1);
        EDGE.answers(y, 11, "about", 0, 0);
        EDGE.answers(y, 1, "about", 0, 1);
        EDGE.answers(y, 2, "about", 0, 2);
    }

    private static void imageKeepsWidthsAndYears() {
        EDGE.sentence("29: PICTURES, with their YEARS and WIDTHS");
        CopiedSkins x = new CopiedSkins();
        x.picture(1, 20, 90);
        x.image(0);
        x.width(0, 50);
        x.image(1);
        EDGE.answers(x, 1, "take", 0);
        x.restore(1);
        EDGE.answers(x, 20, "about", 0, 1);
        EDGE.answers(x, 90, "about", 0, 2);
        EDGE.answers(x, 50, "about", 0, 3);
        x.restore(0);
        EDGE.answers(x, NONE, "about", 0, 3);
        EDGE.answers(x, STATE, "take", 0);
    }

    private static void imageKeepsTheLaw() {
        EDGE.sentence("29: THE LAW");
        CopiedSkins x = new CopiedSkins();
        fill(x, 1);
        x.image(0);
        fill(x, 2);
        EDGE.answers(x, 3, "told", 2);
        EDGE.answers(x, 2, "slip", 2, 3);
        x.restore(0);
        EDGE.answers(x, 2, "told", 2);
        EDGE.answers(x, 1, "slip", 2, 3);
        EDGE.answers(x, 1, "cost", 2, 3);
        EDGE.answers(x, 10, "slip", 3, 2);
    }

    private static void imageKeepsWhatSetTold() {
        EDGE.sentence("29: what set() told");
        CopiedSkins x = new CopiedSkins();
        fill(x, 1);
        x.image(0);
        fill(x, 2);
        x.restore(0);
        int[] want = {1, 11, 2, 3};
        for (int which = 0; which < 4; which++) {
            EDGE.answers(x, want[which], "told", 5 + which);
        }
    }

    private static void imageKeepsWhatSpreadTold() {
        EDGE.sentence("29: what spread() told");
        CopiedSkins x = new CopiedSkins();
        fill(x, 1);
        x.image(0);
        fill(x, 2);
        x.restore(0);
        EDGE.answers(x, 111, "spread", 0, 1, 1);
        EDGE.answers(x, 121, "spread", 1, 1, 1);
    }

    private static void imageKeepsWhatHideTold() {
        EDGE.sentence("29: what hide() told");
        CopiedSkins x = new CopiedSkins();
        for (int s = 0; s < 8; s++) {
            x.hide(s, false, 10 + s);
            x.hide(s, true, 100 + s);
        }
        x.image(0);
        for (int s = 0; s < 8; s++) {
            x.hide(s, false, 0);
            x.hide(s, true, 0);
        }
        x.restore(0);
        for (int s = 0; s < 8; s++) {
            EDGE.answers(x, 10 + s, "hide", s, false, 0);
            EDGE.answers(x, 100 + s, "hide", s, true, 0);
        }
    }

    private static void imageLeavesTheRest() {
        EDGE.sentence("30: they (and nothing else) are as they were");
        CopiedSkins x = new CopiedSkins();
        x.man();
        x.meet(0, 10);
        x.sick(0, 12);
        Due.say(x, "01");
        x.image(0);
        x.man();
        x.meet(1, 20);
        x.sick(0, 21);
        x.sick(1, 22);
        Due.say(x, "=7");
        x.restore(0);
        EDGE.answers(x, 2, "told", 3);
        EDGE.answers(x, 2, "told", 4);
        EDGE.answers(x, OUTSIDE, "meet", 0, 19);
        EDGE.answers(x, 1, "from", 1);
        EDGE.answers(x, 21, "sick", 0, 5);
        EDGE.answers(x, 22, "sick", 1, 5);
        EDGE.answers(x, 4, "told", 1);
        EDGE.answers(x, 1, "law");
        EDGE.answers(x, 7, "slip", 0, 1);
    }

    private static void imageKeptAnew() {
        EDGE.sentence("30: when it was kept (the last time)");
        CopiedSkins x = new CopiedSkins();
        fill(x, 1);
        x.image(0);
        fill(x, 2);
        x.image(0);
        fill(x, 3);
        x.restore(0);
        EDGE.answers(x, 2, "told", 0);
        EDGE.answers(x, 2, "told", 5);
        EDGE.answers(x, 62, "about", 0, 3);
    }

    private static void imagesAreTwo() {
        EDGE.sentence("29: an IMAGE (0, 1): each by itself");
        CopiedSkins x = new CopiedSkins();
        fill(x, 1);
        x.image(0);
        fill(x, 2);
        x.image(1);
        fill(x, 3);
        for (int k = 0; k < 2; k++) {
            EDGE.answers(x, 1, "restore", 0);
            EDGE.answers(x, 1, "told", 0);
            EDGE.answers(x, 1, "slip", 2, 3);
            EDGE.answers(x, 1, "restore", 1);
            EDGE.answers(x, 2, "told", 0);
            EDGE.answers(x, 2, "slip", 2, 3);
        }
        EDGE.sentence("29: the one of what the other restored");
        x.restore(0);
        x.image(1);
        fill(x, 4);
        x.restore(1);
        EDGE.answers(x, 1, "told", 0);
        EDGE.answers(x, 1, "told", 5);
    }

    private static void imageIsNotTheObject() {
        EDGE.sentence("29: kept: what is told behind image() and restore() does not change it");
        CopiedSkins x = new CopiedSkins();
        fill(x, 1);
        x.image(0);
        for (int k = 2; k < 5; k++) {
            x.width(0, 0);
            x.set(0, 90);
            x.hide(2, false, 200);
            x.spread(0, 40, 41);
            Due.law(x, "**=90");
            EDGE.answers(x, 1, "restore", 0);
            EDGE.answers(x, 61, "about", 0, 3);
            EDGE.answers(x, 1, "told", 5);
            EDGE.answers(x, 1, "hide", 2, false, 1);
            EDGE.answers(x, 111, "spread", 0, 1, 11);
            EDGE.answers(x, 1, "slip", 2, 3);
        }
    }

    private static void restoreTwice() {
        EDGE.sentence("30: as they were, again and again");
        CopiedSkins x = Scene.FULL.make();
        x.restore(0);
        List<String> once = Looks.at(x);
        CopiedSkins y = Scene.FULL.make();
        y.restore(0);
        y.restore(0);
        EDGE.is("a look behind restore() twice is the one behind it once", Looks.at(y).equals(once) ? 1 : 0, 1);
    }

    // ---- the terms

    private static void callsThatOnlyAsk() {
        EDGE.sentence("Terms: calls that only ask change nothing");
        EDGE.onlyAsks(ALL, "about", 0, 3);
        EDGE.onlyAsks(ALL, "fault");
        EDGE.onlyAsks(ALL, "slip", 2, 3);
        EDGE.onlyAsks(ALL, "cost", 27, 57);
        EDGE.onlyAsks(ALL, "least", 0);
        EDGE.onlyAsks(ALL, "least", 1);
        EDGE.onlyAsks(ALL, "kept", 99, -1, 0);
        EDGE.onlyAsks(ALL, "kept", 99, 0, 9);
        EDGE.onlyAsks(ALL, "sure", 5, 9);
        EDGE.onlyAsks(ALL, "lost", -1, 3, 2);
        EDGE.onlyAsks(ALL, "aged", 0, 2);
        EDGE.onlyAsks(ALL, "hides", 65535, 0);
        EDGE.onlyAsks(ALL, "cover", 65535);
        EDGE.onlyAsks(ALL, "under", 65535);
        EDGE.onlyAsks(ALL, "from", 2);
        EDGE.onlyAsks(ALL, "firsts", 0);
        EDGE.onlyAsks(ALL, "must", 2, 0);
        EDGE.onlyAsks(ALL, "must", 2, 1);
        EDGE.onlyAsks(ALL, "told", 4);
    }

    private static void aRunOf512Signs() {
        EDGE.sentence("An object is used for at most 512 calls: signs and laws up to the last");
        CopiedSkins x = new CopiedSkins();
        int[] line = {'0', '1', '=', '0', '7'};
        // six calls a law, the rest is left for questions
        for (int call = 0; call < 504; call += 6) {
            for (int sign : line) {
                x.say(sign + (sign == '7' ? call / 6 % 3 : 0));
            }
            EDGE.answers(x, 1, "law");
        }
        for (int call = 504; call < CALLS; call++) {
            EDGE.answers(x, 9, "slip", 0, 1);
        }
    }

    private static void aRunOf512Trees() {
        EDGE.sentence("An object is used for at most 512 calls: trees made anew up to the last");
        CopiedSkins x = new CopiedSkins();
        for (int p = 0; p < 6; p++) {
            x.picture(1 << 2 * p, 0, 99);
        }
        for (int call = 6; call < CALLS; call += 2) {
            int fresh = call / 2 % 20;
            x.set(0, fresh);
            EDGE.answers(x, 6 * fresh, "least", 0);
        }
    }

    private static void aRunOf512Images() {
        EDGE.sentence("An object is used for at most 512 calls: images up to the last");
        CopiedSkins x = new CopiedSkins();
        for (int call = 0; call < CALLS - 4; call += 4) {
            x.set(1, call / 4 % 100);
            EDGE.answers(x, 1, "image", call / 4 % 2);
            x.set(1, 0);
            EDGE.answers(x, 1, "restore", call / 4 % 2);
        }
        EDGE.answers(x, 26, "told", 6);
        EDGE.answers(x, 1, "restore", 1);
        EDGE.answers(x, 25, "told", 6);
        EDGE.answers(x, 20, "told", 5);
    }

    private static void aRunOf512Refusals() {
        EDGE.sentence("An object is used for at most 512 calls: refusals up to the last");
        CopiedSkins x = new CopiedSkins();
        for (int call = 0; call < 8; call++) {
            x.man();
        }
        for (int call = 8; call < CALLS - 2; call += 2) {
            EDGE.answers(x, CopiedSkins.FULL, "man");
            EDGE.answers(x, OUTSIDE, "say", call % 33);
        }
        EDGE.answers(x, 8, "told", 3);
        EDGE.answers(x, 0, "wipe");
    }
}
