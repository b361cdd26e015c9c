import java.util.List;

/** The edges of promises 19 to 22, a method a sentence of the document: what hides, covers, what lies underneath. */
public final class EdgesCoversTest {
    private static final Edge EDGE = new Edge();
    private static final List<Scene> ALL = List.of(Scene.values());
    private static final int UNKNOWN = CopiedSkins.UNKNOWN, OUTSIDE = CopiedSkins.OUTSIDE, NONE = CopiedSkins.NONE;

    public static void main(String[] args) {
        hideUnknown();
        hideOutside();
        hideAtFirst();
        hideAnswersWhatItWas();
        hidesDrawing();
        hidesWhat();
        hidesNothingAndAll();
        hidesByKind();
        inkByKind();
        coverDrawing();
        coverOfNothing();
        coverNone();
        coverHidesEachStrokeThatIsThere();
        coverStrokeIsOfOneKind();
        coverOfLeastInk();
        coverOfSeveralTheLeastNumber();
        coverOfAllThickOnes();
        underDrawing();
        underNoPictures();
        underAllSix();
        underShowsAlike();
        underHidden();
        EDGE.end();
    }

    /** An object in which no stroke hides anything. */
    private static CopiedSkins bare() {
        CopiedSkins x = new CopiedSkins();
        for (int s = 0; s < 8; s++) {
            x.hide(s, false, 0);
            x.hide(s, true, 0);
        }
        return x;
    }

    // ---- promise 19

    private static void hideUnknown() {
        EDGE.sentence("19: STROKES 0 to 7; UNKNOWN");
        EDGE.bounds(UNKNOWN, ALL, 0, 0, 7, "hide", 0, false, 9);
        EDGE.bounds(UNKNOWN, ALL, 0, 0, 7, "hide", 0, true, 9);
        EDGE.sentence("19: UNKNOWN is answered ahead of OUTSIDE");
        EDGE.refused(UNKNOWN, ALL, "hide", 8, true, 256);
        EDGE.refused(UNKNOWN, ALL, "hide", -1, false, -1);
    }

    private static void hideOutside() {
        EDGE.sentence("19: OUTSIDE: bits 0 to 255");
        int[] strokes = {0, 5, 7};
        for (int s : strokes) {
            EDGE.bounds(OUTSIDE, ALL, 2, 0, 255, "hide", s, false, 0);
            EDGE.bounds(OUTSIDE, ALL, 2, 0, 255, "hide", s, true, 0);
        }
    }

    private static void hideAtFirst() {
        EDGE.sentence("19: each hides itself alone at first, thick ones too");
        CopiedSkins x = new CopiedSkins();
        for (int s = 0; s < 8; s++) {
            EDGE.answers(x, 1 << s, "hide", s, true, 0);
            EDGE.answers(x, 1 << s, "hide", s, false, 0);
        }
    }

    private static void hideAnswersWhatItWas() {
        EDGE.sentence("19: which it was; plain and thick apart");
        CopiedSkins x = new CopiedSkins();
        for (int s = 0; s < 8; s++) {
            x.hide(s, false, 0);
            x.hide(s, true, 255);
            EDGE.answers(x, 0, "hide", s, false, 255);
            EDGE.answers(x, 255, "hide", s, true, 0);
            EDGE.answers(x, 255, "hide", s, false, 1);
            EDGE.answers(x, 0, "hide", s, true, 2);
        }
        for (int s = 0; s < 8; s++) {
            EDGE.answers(x, 1, "hide", s, false, 1);
            EDGE.answers(x, 2, "hide", s, true, 2);
        }
    }

    // ---- promise 20

    private static void hidesDrawing() {
        EDGE.sentence("20: a DRAWING (0 to 65535); OUTSIDE");
        EDGE.bounds(OUTSIDE, ALL, 0, 0, 65535, "hides", 0, 0);
        EDGE.bounds(OUTSIDE, ALL, 0, 0, 65535, "hides", 0, 1);
    }

    private static void hidesWhat() {
        EDGE.sentence("20: (what = 0), INK (1); OUTSIDE");
        EDGE.bounds(OUTSIDE, ALL, 1, 0, 1, "hides", 0, 0);
        EDGE.bounds(OUTSIDE, ALL, 1, 0, 1, "hides", 65535, 0);
        EDGE.refused(OUTSIDE, ALL, "hides", 65536, 2);
    }

    private static void hidesNothingAndAll() {
        EDGE.sentence("20: STROKES that a DRAWING hides, as bits: none, all");
        CopiedSkins x = new CopiedSkins();
        EDGE.answers(x, 0, "hides", 0, 0);
        EDGE.answers(x, 255, "hides", 65535, 0);
        EDGE.answers(x, 1, "hides", 16384, 0);
        EDGE.answers(x, 128, "hides", 1, 0);
        EDGE.answers(bare(), 0, "hides", 65535, 0);
        EDGE.answers(bare(), 0, "hides", 21845, 0);
    }

    private static void hidesByKind() {
        EDGE.sentence("20: a plain or turned STROKE of a cover hides some STROKES, a thick one some");
        CopiedSkins x = bare();
        for (int s = 0; s < 8; s++) {
            x.hide(s, false, 1 << (s + 1) % 8);
            x.hide(s, true, 255 - (1 << s));
        }
        for (int s = 0; s < 8; s++) {
            int unit = 1 << 14 - 2 * s;
            EDGE.answers(x, 1 << (s + 1) % 8, "hides", unit, 0);
            EDGE.answers(x, 1 << (s + 1) % 8, "hides", 2 * unit, 0);
            EDGE.answers(x, 255 - (1 << s), "hides", 3 * unit, 0);
        }
    }

    private static void inkByKind() {
        EDGE.sentence("20: INK: 1 for each plain or turned STROKE, 2 for each thick one");
        CopiedSkins x = bare();
        int[] ink = {0, 1, 1, 2};
        for (int kind = 0; kind < 4; kind++) {
            EDGE.answers(x, 8 * ink[kind], "hides", 21845 * kind, 1);
            EDGE.answers(x, ink[kind], "hides", kind << 14, 1);
            EDGE.answers(x, ink[kind], "hides", kind, 1);
        }
    }

    // ---- promise 21

    private static void coverDrawing() {
        EDGE.sentence("21: COVER of a DRAWING (0 to 65535); OUTSIDE");
        EDGE.bounds(OUTSIDE, ALL, 0, 0, 65535, "cover", 0);
    }

    private static void coverOfNothing() {
        EDGE.sentence("21: a DRAWING without STROKES needs no INK");
        EDGE.answers(new CopiedSkins(), 0, "cover", 0);
        EDGE.answers(bare(), 0, "cover", 0);
    }

    private static void coverNone() {
        EDGE.sentence("21: NONE: nothing hides it");
        CopiedSkins x = bare();
        for (int s = 0; s < 8; s++) {
            EDGE.answers(x, NONE, "cover", 1 << 2 * s);
        }
        EDGE.answers(x, NONE, "cover", 65535);
        x.hide(4, true, 127);
        EDGE.answers(x, NONE, "cover", 65535);
        EDGE.answers(x, 192, "cover", 65535 - 3);
        x.hide(3, false, 128);
        EDGE.answers(x, 256 + 192, "cover", 65535);
        EDGE.onlyAsks(ALL, "cover", 65535);
    }

    private static void coverHidesEachStrokeThatIsThere() {
        EDGE.sentence("21: hides a DRAWING, if each STROKE that is there in it is hidden by some STROKE of the cover");
        CopiedSkins x = new CopiedSkins();
        for (int s = 0; s < 8; s++) {
            for (int kind = 1; kind < 4; kind++) {
                EDGE.answers(x, 1 << 2 * s, "cover", kind << 2 * s);
            }
        }
        EDGE.answers(x, 21845, "cover", 65535);
        EDGE.answers(x, 21845, "cover", 43690);
        EDGE.answers(x, 16385, "cover", 32771);
    }

    private static void coverStrokeIsOfOneKind() {
        EDGE.sentence("21: STROKES are each 0 none, 1 plain, 2 turned, 3 thick: not plain and thick at once");
        int[] strokes = {0, 3, 7};
        for (int s : strokes) {
            CopiedSkins x = bare();
            x.hide(s, false, 1);
            x.hide(s, true, 2);
            EDGE.answers(x, 1 << 14 - 2 * s, "cover", 16384);
            EDGE.answers(x, 3 << 14 - 2 * s, "cover", 4096);
            EDGE.answers(x, NONE, "cover", 20480);
        }
    }

    private static void coverOfLeastInk() {
        EDGE.sentence("21: that of least INK that hides it");
        CopiedSkins x = new CopiedSkins();
        x.hide(0, true, 7);
        // three plain ones are 3, a thick one 2
        EDGE.answers(x, 49152, "cover", 16384 + 4096 + 1024);
        // two plain ones are 2, too
        EDGE.answers(x, 4096 + 1024, "cover", 4096 + 1024);
        x.hide(0, false, 6);
        EDGE.answers(x, 16384, "cover", 4096 + 1024);
        // 0 hides 1 and 2, but itself no more: only the thick one hides it
        EDGE.answers(x, 49152, "cover", 16384);
    }

    private static void coverOfSeveralTheLeastNumber() {
        EDGE.sentence("21: of several the least number");
        CopiedSkins x = new CopiedSkins();
        x.hide(7, false, 129);
        EDGE.answers(x, 1, "cover", 49152);
        EDGE.answers(x, 1, "cover", 49155);
        CopiedSkins y = new CopiedSkins();
        y.hide(7, true, 192);
        // 6 and 7 plain, or 7 thick: 2 each
        EDGE.answers(y, 3, "cover", 5);
        y.hide(7, true, 128);
        y.hide(6, true, 192);
        EDGE.answers(y, 5, "cover", 5);
        CopiedSkins z = bare();
        z.hide(0, false, 255);
        z.hide(1, true, 255);
        // 0 plain is 1, 1 thick is 2: the INK goes ahead of the number
        EDGE.answers(z, 16384, "cover", 65535);
        z.hide(0, false, 0);
        EDGE.answers(z, 12288, "cover", 65535);
    }

    private static void coverOfAllThickOnes() {
        EDGE.sentence("21: the most INK that a cover can need");
        CopiedSkins x = bare();
        for (int s = 0; s < 8; s++) {
            x.hide(s, true, 1 << s);
        }
        EDGE.answers(x, 65535, "cover", 21845);
        EDGE.answers(x, 3, "cover", 2);
        EDGE.answers(x, 49152, "cover", 16384);
    }

    // ---- promise 22

    private static void underDrawing() {
        EDGE.sentence("22: UNDER a DRAWING (0 to 65535); OUTSIDE");
        EDGE.bounds(OUTSIDE, ALL, 0, 0, 65535, "under", 0);
    }

    private static void underNoPictures() {
        EDGE.sentence("22: PICTURES (bits): none");
        EDGE.answers(new CopiedSkins(), 0, "under", 0);
        EDGE.answers(new CopiedSkins(), 0, "under", 65535);
        CopiedSkins x = new CopiedSkins();
        x.picture(1, 0, 0);
        EDGE.answers(x, 0, "under", 0);
    }

    private static void underAllSix() {
        EDGE.sentence("22: PICTURES (bits): all six");
        CopiedSkins x = new CopiedSkins();
        for (int p = 0; p < 6; p++) {
            x.picture(9871 * p, p, p);
        }
        EDGE.answers(x, 63, "under", 65535);
        EDGE.answers(x, 63, "under", 21845);
        EDGE.answers(x, 1, "under", 0);
        CopiedSkins blank = new CopiedSkins();
        for (int p = 0; p < 6; p++) {
            blank.picture(0, 0, 0);
        }
        EDGE.answers(blank, 63, "under", 0);
    }

    private static void underShowsAlike() {
        EDGE.sentence("22: each STROKE that they have and that it does not hide shows: is in it, alike");
        CopiedSkins x = bare();
        int[] drawings = {0, 16384, 32768, 49152, 1, 16385};
        for (int drawing : drawings) {
            x.picture(drawing, 0, 9);
        }
        EDGE.answers(x, 1, "under", 0);
        EDGE.answers(x, 1 + 2, "under", 16384);
        EDGE.answers(x, 1 + 4, "under", 32768);
        EDGE.answers(x, 1 + 8, "under", 49152);
        EDGE.answers(x, 1 + 16, "under", 1);
        EDGE.answers(x, 1, "under", 2);
        EDGE.answers(x, 1 + 2 + 16 + 32, "under", 16385);
        EDGE.answers(x, 1 + 4 + 16, "under", 32769);
        // strokes that are in it alone hinder nobody
        EDGE.answers(x, 1 + 2, "under", 16384 + 4096);
    }

    private static void underHidden() {
        EDGE.sentence("22: what it hides may be any STROKE");
        CopiedSkins x = bare();
        x.hide(7, false, 1);
        x.hide(7, true, 3);
        int[] drawings = {16384, 32768, 49152, 4096, 20480, 1};
        for (int drawing : drawings) {
            x.picture(drawing, 0, 9);
        }
        EDGE.answers(x, 7 + 32, "under", 1);
        EDGE.answers(x, 7, "under", 2);
        EDGE.answers(x, 31, "under", 3);
        EDGE.answers(x, 7 + 8 + 16 + 32, "under", 4096 + 1);
        EDGE.answers(x, 0, "under", 0);
    }
}
