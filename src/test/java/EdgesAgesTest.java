import java.util.List;

/** The edges of promises 15 to 18, a method a sentence of the document: widths, spans, ages. */
public final class EdgesAgesTest {
    private static final Edge EDGE = new Edge();
    private static final List<Scene> ALL = List.of(Scene.values());
    private static final List<Scene> EMPTY = List.of(Scene.EMPTY);
    private static final List<Scene> HALF = List.of(Scene.HALF);
    private static final List<Scene> FULL = List.of(Scene.FULL);
    private static final List<Scene> NOT_EMPTY = List.of(Scene.HALF, Scene.FULL);
    private static final int UNKNOWN = CopiedSkins.UNKNOWN, OUTSIDE = CopiedSkins.OUTSIDE, STATE = CopiedSkins.STATE;
    private static final int NONE = CopiedSkins.NONE, NO = CopiedSkins.NO;

    public static void main(String[] args) {
        widthUnknown();
        widthOutside();
        widthEnds();
        widthSheet();
        spreadWhich();
        spreadEnds();
        spreadLeastAboveGreatest();
        spreadAtFirst();
        spreadAnswersAsItWas();
        agedUnknown();
        agedOutside();
        agedState();
        agedNo();
        agedFromZeroToNow();
        agedNowZero();
        agedByThisAlone();
        agedSpansAtTheirEnds();
        agedWholeNumbers();
        agedAllYears();
        takeUnknown();
        takeState();
        takeNo();
        takeTouchesTheSpan();
        takeNarrowsAtEitherEnd();
        takeKeepsYearsBetween();
        takeTwice();
        EDGE.end();
    }

    /** One picture in skin, of these years. */
    private static CopiedSkins skin(int width, int least, int greatest) {
        CopiedSkins x = new CopiedSkins();
        x.picture(7, least, greatest);
        x.width(0, width);
        return x;
    }

    private static void isAged(CopiedSkins x, int first, int last, int count) {
        EDGE.answers(x, first, "aged", 0, 0);
        EDGE.answers(x, last, "aged", 0, 1);
        EDGE.answers(x, count, "aged", 0, 2);
    }

    private static void isNever(CopiedSkins x) {
        isAged(x, NO, NO, NO);
    }

    // ---- promise 15

    private static void widthUnknown() {
        EDGE.sentence("15: WIDTH of a PICTURE; UNKNOWN");
        EDGE.refused(UNKNOWN, EMPTY, "width", 0, 1);
        EDGE.bounds(UNKNOWN, HALF, 0, 0, 2, "width", 0, 5);
        EDGE.bounds(UNKNOWN, FULL, 0, 0, 5, "width", 0, 5);
        EDGE.sentence("15: UNKNOWN is answered ahead of OUTSIDE");
        EDGE.refused(UNKNOWN, ALL, "width", 6, 1000);
        EDGE.refused(UNKNOWN, ALL, "width", -1, -1);
    }

    private static void widthOutside() {
        EDGE.sentence("15: 1 to 999 hairs (0: a sheet); OUTSIDE");
        for (int p = 0; p < 3; p++) {
            EDGE.bounds(OUTSIDE, NOT_EMPTY, 1, 0, 999, "width", p, 0);
        }
    }

    private static void widthEnds() {
        EDGE.sentence("15: which it was (NONE)");
        CopiedSkins x = new CopiedSkins();
        x.picture(7, 0, 9);
        x.picture(8, 0, 9);
        EDGE.answers(x, NONE, "width", 0, 1);
        EDGE.answers(x, 1, "width", 0, 999);
        EDGE.answers(x, 999, "width", 0, 999);
        EDGE.answers(x, OUTSIDE, "width", 0, 1000);
        EDGE.answers(x, 999, "about", 0, 3);
        EDGE.answers(x, NONE, "about", 1, 3);
    }

    private static void widthSheet() {
        EDGE.sentence("15: (0: a sheet)");
        CopiedSkins x = skin(10, 0, 99);
        EDGE.answers(x, 99, "aged", 0, 0);
        EDGE.answers(x, 10, "width", 0, 0);
        EDGE.answers(x, STATE, "aged", 0, 0);
        EDGE.answers(x, NONE, "width", 0, 0);
        EDGE.answers(x, NONE, "about", 0, 3);
        EDGE.answers(x, STATE, "take", 0);
    }

    // ---- promise 16

    private static void spreadWhich() {
        EDGE.sentence("16: FIRST (which = 0), SPREAD (1); OUTSIDE");
        EDGE.bounds(OUTSIDE, ALL, 0, 0, 1, "spread", 0, 3, 4);
    }

    private static void spreadEnds() {
        EDGE.sentence("16: spans (1 to 99)");
        for (int which = 0; which < 2; which++) {
            EDGE.bounds(OUTSIDE, ALL, 1, 1, 99, "spread", which, 0, 99);
            EDGE.bounds(OUTSIDE, ALL, 2, 1, 99, "spread", which, 1, 0);
            EDGE.refused(OUTSIDE, ALL, "spread", which, 0, 0);
            EDGE.refused(OUTSIDE, ALL, "spread", which, 100, 100);
            EDGE.refused(OUTSIDE, ALL, "spread", which, Integer.MIN_VALUE, Integer.MAX_VALUE);
        }
    }

    private static void spreadLeastAboveGreatest() {
        EDGE.sentence("16: OUTSIDE: also least above greatest");
        for (int which = 0; which < 2; which++) {
            EDGE.refused(OUTSIDE, ALL, "spread", which, 2, 1);
            EDGE.refused(OUTSIDE, ALL, "spread", which, 50, 49);
            EDGE.refused(OUTSIDE, ALL, "spread", which, 99, 98);
            EDGE.refused(OUTSIDE, ALL, "spread", which, 99, 1);
        }
    }

    private static void spreadAtFirst() {
        EDGE.sentence("16: 10 to 10 and 1 to 1 at first");
        EDGE.answers(new CopiedSkins(), 1010, "spread", 0, 5, 6);
        EDGE.answers(new CopiedSkins(), 101, "spread", 1, 5, 6);
    }

    private static void spreadAnswersAsItWas() {
        EDGE.sentence("16: 100 times the least, and the greatest, as it was");
        int[][] spans = {{1, 1}, {1, 99}, {99, 99}, {50, 50}, {7, 8}};
        CopiedSkins x = new CopiedSkins();
        for (int which = 0; which < 2; which++) {
            for (int[] span : spans) {
                x.spread(which, span[0], span[1]);
                EDGE.answers(x, 100 * span[0] + span[1], "spread", which, span[0], span[1]);
            }
        }
        x.spread(0, 3, 4);
        EDGE.answers(x, 708, "spread", 1, 1, 1);
        EDGE.answers(x, 304, "spread", 0, 1, 1);
    }

    // ---- promise 17

    private static void agedUnknown() {
        EDGE.sentence("17: AGED; UNKNOWN");
        EDGE.refused(UNKNOWN, EMPTY, "aged", 0, 0);
        EDGE.bounds(UNKNOWN, HALF, 0, 0, 2, "aged", 0, 0);
        EDGE.bounds(UNKNOWN, FULL, 0, 0, 5, "aged", 0, 0);
        EDGE.sentence("17: UNKNOWN is answered ahead of OUTSIDE");
        EDGE.refused(UNKNOWN, ALL, "aged", 6, 3);
        EDGE.refused(UNKNOWN, ALL, "aged", -1, -1);
    }

    private static void agedOutside() {
        EDGE.sentence("17: the least YEAR (what = 0), the greatest (1), how many YEARS (2); OUTSIDE");
        EDGE.bounds(OUTSIDE, NOT_EMPTY, 1, 0, 2, "aged", 0, 0);
        EDGE.sentence("17: OUTSIDE is answered ahead of STATE and of NO");
        EDGE.refused(OUTSIDE, NOT_EMPTY, "aged", 1, 3);
        EDGE.refused(OUTSIDE, NOT_EMPTY, "aged", 1, -1);
        CopiedSkins never = skin(9, 0, 99);
        EDGE.answers(never, OUTSIDE, "aged", 0, 3);
        EDGE.answers(never, OUTSIDE, "aged", 0, -1);
    }

    private static void agedState() {
        EDGE.sentence("17: STATE: it is a sheet");
        for (int what = 0; what < 3; what++) {
            EDGE.refused(STATE, NOT_EMPTY, "aged", 1, what);
        }
    }

    private static void agedNo() {
        EDGE.sentence("17: NO, if there are none");
        isNever(skin(9, 0, 99));
        isNever(skin(1, 0, 99));
        isNever(skin(110, 0, 99));
        isNever(skin(999, 0, 99));
    }

    private static void agedFromZeroToNow() {
        EDGE.sentence("17: whole numbers from 0 to NOW");
        isAged(skin(10, 0, 99), 99, 99, 1);
        isAged(skin(11, 0, 99), 98, 98, 1);
        isAged(skin(108, 0, 99), 1, 1, 1);
        isAged(skin(109, 0, 99), 0, 0, 1);
        CopiedSkins x = skin(60, 0, 99);
        isAged(x, 49, 49, 1);
        x.set(1, 50);
        isAged(x, 0, 0, 1);
        x.set(1, 49);
        isNever(x);
    }

    private static void agedNowZero() {
        EDGE.sentence("17: NOW: 0");
        CopiedSkins x = skin(10, 0, 99);
        x.set(1, 0);
        isAged(x, 0, 0, 1);
        x.width(0, 11);
        isNever(x);
        x.width(0, 9);
        isNever(x);
        x.spread(0, 1, 99);
        x.width(0, 1);
        isAged(x, 0, 0, 1);
        x.width(0, 99);
        isAged(x, 0, 0, 1);
        x.width(0, 100);
        isNever(x);
    }

    private static void agedByThisAlone() {
        EDGE.sentence("17: YEARS by this alone");
        CopiedSkins x = skin(10, 3, 4);
        isAged(x, 99, 99, 1);
        EDGE.answers(x, 3, "about", 0, 1);
        EDGE.answers(x, 4, "about", 0, 2);
    }

    private static void agedSpansAtTheirEnds() {
        EDGE.sentence("17: some FIRST and some SPREAD of these");
        CopiedSkins x = skin(28, 0, 99);
        // after 10 years: 20 and 8 to 10
        x.spread(0, 8, 10);
        x.spread(1, 2, 2);
        isAged(x, 89, 90, 2);
        x.width(0, 30);
        isAged(x, 88, 89, 2);
        x.width(0, 29);
        isAged(x, 89, 89, 1);
        x.width(0, 7);
        isNever(x);
        x.width(0, 8);
        isAged(x, 99, 99, 1);
        x.width(0, 11);
        isAged(x, 98, 98, 1);
        x.spread(0, 8, 8);
        x.spread(1, 2, 4);
        // 12 more: by 2 in 6, by 3 in 4, by 4 in 3 years
        x.width(0, 20);
        isAged(x, 93, 96, 3);
        x.spread(1, 3, 3);
        isAged(x, 95, 95, 1);
    }

    private static void agedWholeNumbers() {
        EDGE.sentence("17: (whole numbers, too)");
        CopiedSkins x = skin(13, 0, 99);
        x.spread(1, 2, 2);
        isNever(x);
        x.spread(1, 2, 4);
        // three more in a year
        isAged(x, 98, 98, 1);
    }

    private static void agedAllYears() {
        EDGE.sentence("17: how many YEARS: the widest spans");
        CopiedSkins x = skin(999, 0, 99);
        x.spread(0, 1, 99);
        x.spread(1, 1, 99);
        // 900 to 998 more: in 10 years (by 99) to 99 years (by 10)
        isAged(x, 0, 89, 90);
        x.width(0, 1);
        isAged(x, 99, 99, 1);
        x.width(0, 99);
        // nothing more, or 1 to 98 more
        isAged(x, 1, 99, 99);
        x.width(0, 100);
        // 1 to 99 more
        isAged(x, 0, 98, 99);
        x.spread(0, 9, 9);
        x.spread(1, 99, 99);
        x.width(0, 999);
        isAged(x, 89, 89, 1);
        x.width(0, 998);
        isNever(x);
    }

    // ---- promise 18

    private static void takeUnknown() {
        EDGE.sentence("18: TAKE; UNKNOWN");
        EDGE.refused(UNKNOWN, EMPTY, "take", 0);
        EDGE.bounds(UNKNOWN, HALF, 0, 0, 2, "take", 0);
        EDGE.bounds(UNKNOWN, FULL, 0, 0, 5, "take", 0);
    }

    private static void takeState() {
        EDGE.sentence("18: STATE (a sheet)");
        EDGE.refused(STATE, NOT_EMPTY, "take", 1);
    }

    private static void takeNo() {
        EDGE.sentence("18: NO, if no YEARS are AGED");
        int[] widths = {1, 9, 110, 999};
        for (int width : widths) {
            CopiedSkins x = skin(width, 0, 99);
            EDGE.answers(x, NO, "take", 0);
            EDGE.answers(x, 0, "about", 0, 1);
            EDGE.answers(x, 99, "about", 0, 2);
            EDGE.answers(x, width, "about", 0, 3);
        }
        // no year is AGED, though a span that begins with year 0 is told
        EDGE.answers(skin(9, 0, 0), NO, "take", 0);
        EDGE.answers(skin(9, 99, 99), NO, "take", 0);
        EDGE.sentence("18: NO (nothing changes)");
        // the half scene's picture 2 is of years 40 to 45, by its width of 68 to 81
        EDGE.refused(NO, HALF, "take", 2);
        // the full scene's picture 3 is of years 40 to 45, by its width of 64 to 80
        EDGE.refused(NO, FULL, "take", 3);
    }

    /** By width w, the year is 109 - w. */
    private static void takeTouchesTheSpan() {
        EDGE.sentence("18: NO, if nothing would be left");
        int[] widths = {48, 49, 50, 88, 89, 90};
        int[] years = {61, 60, 59, 21, 20, 19};
        int[] want = {NO, 1, 1, 1, 1, NO};
        for (int k = 0; k < widths.length; k++) {
            CopiedSkins x = skin(widths[k], 20, 60);
            EDGE.answers(x, years[k], "aged", 0, 0);
            EDGE.answers(x, want[k], "take", 0);
            EDGE.answers(x, want[k] == NO ? 20 : years[k], "about", 0, 1);
            EDGE.answers(x, want[k] == NO ? 60 : years[k], "about", 0, 2);
        }
    }

    /** By width 60 and FIRST 1 to 21, the years are 40 to 60. */
    private static void takeNarrowsAtEitherEnd() {
        EDGE.sentence("18: TAKE narrows its told YEARS: how many YEARS are left of the span");
        int[][] told = {{0, 99}, {40, 60}, {41, 59}, {0, 40}, {60, 99}, {0, 50}, {50, 99}, {39, 61}, {0, 39}, {61, 99}};
        int[][] left = {{40, 60}, {40, 60}, {41, 59}, {40, 40}, {60, 60}, {40, 50}, {50, 60}, {40, 60}, {0, 39}, {61, 99}};
        int[] want = {21, 21, 19, 1, 1, 11, 11, 21, NO, NO};
        for (int k = 0; k < told.length; k++) {
            CopiedSkins x = skin(60, told[k][0], told[k][1]);
            x.spread(0, 1, 21);
            EDGE.answers(x, want[k], "take", 0);
            EDGE.answers(x, left[k][0], "about", 0, 1);
            EDGE.answers(x, left[k][1], "about", 0, 2);
            EDGE.answers(x, 60, "about", 0, 3);
        }
    }

    private static void takeKeepsYearsBetween() {
        EDGE.sentence("18: those from the least to the greatest AGED one");
        CopiedSkins x = skin(14, 96, 96);
        x.spread(1, 1, 2);
        // four more: by 1 in four years, by 2 in two
        isAged(x, 95, 97, 2);
        EDGE.answers(x, 1, "take", 0);
        EDGE.answers(x, 96, "about", 0, 1);
        EDGE.answers(x, 96, "about", 0, 2);
        CopiedSkins y = skin(14, 0, 99);
        y.spread(1, 1, 2);
        EDGE.answers(y, 3, "take", 0);
    }

    private static void takeTwice() {
        EDGE.sentence("18: TAKE of what is left already");
        CopiedSkins x = skin(60, 0, 99);
        x.picture(9, 5, 6);
        EDGE.answers(x, 1, "take", 0);
        EDGE.answers(x, 1, "take", 0);
        EDGE.answers(x, 49, "about", 0, 1);
        EDGE.answers(x, 5, "about", 1, 1);
        x.width(0, 61);
        EDGE.answers(x, NO, "take", 0);
        EDGE.answers(x, 49, "about", 0, 2);
    }
}
