import java.util.List;

/** The edges of promises 11 to 14, a method a sentence of the document: trees and lost pictures. */
public final class EdgesTreesTest {
    private static final Edge EDGE = new Edge();
    private static final List<Scene> ALL = List.of(Scene.values());
    private static final List<Scene> EMPTY = List.of(Scene.EMPTY);
    private static final List<Scene> HALF = List.of(Scene.HALF);
    private static final List<Scene> FULL = List.of(Scene.FULL);
    private static final List<Scene> NOT_EMPTY = List.of(Scene.HALF, Scene.FULL);
    private static final int UNKNOWN = CopiedSkins.UNKNOWN, OUTSIDE = CopiedSkins.OUTSIDE, STATE = CopiedSkins.STATE;
    private static final int NONE = CopiedSkins.NONE;
    private static final int MIN = Integer.MIN_VALUE, MAX = Integer.MAX_VALUE;

    public static void main(String[] args) {
        leastOutside();
        leastState();
        leastOfOneToSix();
        leastCostEnds();
        leastTies();
        treesByYears();
        treesByYearsAtTheEnds();
        treesInOrder();
        keptNumber();
        keptPicture();
        keptState();
        keptOrderOfRefusals();
        keptHowMany();
        keptNoSuchTree();
        keptCostNoMore();
        keptByNinetyNine();
        sureNumber();
        surePicture();
        sureState();
        sureInAllKept();
        sureOfOneAndOfSix();
        treesFollowWhatChanges();
        lostPicture();
        lostOthers();
        lostNoneOfOthers();
        lostAmongOthers();
        lostWhat();
        lostOrderOfRefusals();
        lostLeastNumber();
        lostIsTracedFromTheOne();
        lostSaves();
        lostSavesEnds();
        lostYearsDoNotMatter();
        EDGE.end();
    }

    /** Pictures of all years, under a law (none if it is empty). */
    private static CopiedSkins pictures(String law, int... drawings) {
        CopiedSkins x = new CopiedSkins();
        if (!law.isEmpty()) {
            Due.law(x, law);
        }
        for (int drawing : drawings) {
            x.picture(drawing, 0, 99);
        }
        return x;
    }

    private static void isRow(CopiedSkins x, int more, int i, int cost, int... row) {
        EDGE.answers(x, cost, "kept", more, i, 9);
        for (int p = 0; p < row.length; p++) {
            EDGE.answers(x, row[p], "kept", more, i, p);
        }
    }

    // ---- promise 11

    private static void leastOutside() {
        EDGE.sentence("11: LEAST (what = 0), (1), (2); OUTSIDE");
        EDGE.bounds(OUTSIDE, ALL, 0, 0, 2, "least", 0);
        EDGE.sentence("11: OUTSIDE is answered ahead of STATE");
        EDGE.refused(OUTSIDE, EMPTY, "least", 3);
        EDGE.refused(OUTSIDE, EMPTY, "least", -1);
    }

    private static void leastState() {
        EDGE.sentence("11: STATE: no PICTURES");
        for (int what = 0; what < 3; what++) {
            EDGE.refused(STATE, EMPTY, "least", what);
        }
        CopiedSkins x = new CopiedSkins();
        x.image(1);
        x.picture(0, 0, 0);
        EDGE.answers(x, 20, "least", 0);
        x.restore(1);
        EDGE.answers(x, STATE, "least", 0);
    }

    private static void leastOfOneToSix() {
        EDGE.sentence("11: how many there are at all, of one PICTURE to six");
        int[] trees = {1, 3, 16, 125, 1296, 16807};
        // a row from one of n that was drawn anew: n to the power of (n - 1)
        int[] ofLeastCost = {1, 2, 9, 64, 625, 7776};
        CopiedSkins x = new CopiedSkins();
        for (int n = 1; n <= 6; n++) {
            x.picture(4711, 0, 99);
            EDGE.answers(x, 20, "least", 0);
            EDGE.answers(x, ofLeastCost[n - 1], "least", 1);
            EDGE.answers(x, trees[n - 1], "least", 2);
        }
    }

    private static void leastCostEnds() {
        EDGE.sentence("11: LEAST by NEW 0 is 0, by NEW 99 and dear SLIPS 594");
        CopiedSkins x = pictures("**=99", 0, 5, 10, 15, 80, 240);
        x.set(0, 99);
        EDGE.answers(x, 594, "least", 0);
        EDGE.answers(x, 1, "least", 1);
        x.set(0, 0);
        EDGE.answers(x, 0, "least", 0);
        EDGE.answers(x, 1, "least", 1);
        EDGE.answers(x, 16807, "least", 2);
    }

    private static void leastTies() {
        EDGE.sentence("11: how many TREES cost that: a tracing may cost just NEW, one more or one less");
        int[] fresh = {98, 99, 97};
        int[] least = {196, 197, 194};
        int[] count = {3, 2, 1};
        for (int k = 0; k < 3; k++) {
            CopiedSkins x = pictures("**=98", 0, 1);
            x.set(0, fresh[k]);
            // a tracing and NEW, or NEW twice
            EDGE.answers(x, least[k], "least", 0);
            EDGE.answers(x, count[k], "least", 1);
        }
    }

    private static void treesByYears() {
        EDGE.sentence("11: traced from one whose least YEAR is no more than its own greatest");
        int[] greatest = {49, 50, 51};
        int[] trees = {2, 3, 3};
        for (int k = 0; k < 3; k++) {
            CopiedSkins x = new CopiedSkins();
            x.picture(0, 50, 60);
            x.picture(1, 10, greatest[k]);
            EDGE.answers(x, trees[k], "least", 2);
            // picture 1 from picture 0 is the tree that may be missing
            EDGE.answers(x, k == 0 ? 9 : 0, "kept", 99, 1, 1);
        }
    }

    private static void treesByYearsAtTheEnds() {
        EDGE.sentence("11: YEARS 0 and 99");
        int[][] spans = {{0, 0, 0, 0}, {99, 99, 99, 99}, {0, 0, 99, 99}, {0, 0, 1, 1}, {98, 98, 99, 99}, {0, 99, 0, 99}};
        int[] trees = {3, 3, 2, 2, 2, 3};
        for (int k = 0; k < spans.length; k++) {
            CopiedSkins x = new CopiedSkins();
            x.picture(0, spans[k][0], spans[k][1]);
            x.picture(1, spans[k][2], spans[k][3]);
            EDGE.answers(x, trees[k], "least", 2);
        }
        CopiedSkins chain = new CopiedSkins();
        for (int p = 0; p < 6; p++) {
            chain.picture(p, 10 * p, 10 * p);
        }
        // each from any of the earlier ones, or none
        EDGE.answers(chain, 1 * 2 * 3 * 4 * 5 * 6, "least", 2);
    }

    private static void treesInOrder() {
        EDGE.sentence("12: rows stand in order by PICTURE 0 first, 9 last; none from itself by steps");
        int[][] rows = {{1, 2, 9}, {1, 9, 0}, {1, 9, 1}, {1, 9, 9}, {2, 0, 9}, {2, 2, 9}, {2, 9, 1}, {2, 9, 9},
            {9, 0, 0}, {9, 0, 1}, {9, 0, 9}, {9, 2, 0}, {9, 2, 9}, {9, 9, 0}, {9, 9, 1}, {9, 9, 9}};
        CopiedSkins x = pictures("", 7, 7, 7);
        x.set(0, 0);
        EDGE.answers(x, rows.length, "kept", 0, -1, 0);
        for (int i = 0; i < rows.length; i++) {
            isRow(x, 0, i, 0, rows[i]);
        }
        EDGE.answers(x, NONE, "kept", 0, rows.length, 9);
    }

    // ---- promise 12

    private static void keptNumber() {
        EDGE.sentence("12: a number (0 to 99); OUTSIDE: the number");
        EDGE.bounds(OUTSIDE, NOT_EMPTY, 0, 0, 99, "kept", 0, -1, 0);
        EDGE.bounds(OUTSIDE, NOT_EMPTY, 0, 0, 99, "kept", 0, 0, 0);
        EDGE.bounds(OUTSIDE, ALL, 0, 0, 99, "kept", 0, 0, 9);
    }

    private static void keptPicture() {
        EDGE.sentence("12: UNKNOWN: the PICTURE");
        int[] never = {MIN, -2, -1, 6, 7, 8, 10, 32, 41, MAX};
        for (int p : never) {
            EDGE.refused(UNKNOWN, ALL, "kept", 0, 0, p);
        }
        EDGE.refused(UNKNOWN, EMPTY, "kept", 0, 0, 0);
        EDGE.refused(UNKNOWN, HALF, "kept", 0, 0, 3);
        EDGE.refused(UNKNOWN, HALF, "kept", 0, 0, 5);
        CopiedSkins six = pictures("", 7, 7, 7, 7, 7, 7);
        // the first row: a chain up to the last one
        isRow(six, 0, 0, 20, 1, 2, 3, 4, 5, 9);
    }

    private static void keptState() {
        EDGE.sentence("12: STATE: no PICTURES");
        EDGE.refused(STATE, EMPTY, "kept", 0, -1, 0);
        EDGE.refused(STATE, EMPTY, "kept", 99, -1, MIN);
        EDGE.refused(STATE, EMPTY, "kept", 0, 0, 9);
        EDGE.refused(STATE, EMPTY, "kept", 0, MAX, 9);
        EDGE.refused(STATE, EMPTY, "kept", 0, -2, 9);
    }

    private static void keptOrderOfRefusals() {
        EDGE.sentence("12: UNKNOWN ahead of OUTSIDE ahead of STATE ahead of NONE");
        EDGE.refused(UNKNOWN, ALL, "kept", 100, 0, 6);
        EDGE.refused(UNKNOWN, ALL, "kept", -1, 99999, 6);
        EDGE.refused(UNKNOWN, EMPTY, "kept", 0, 0, 0);
        EDGE.refused(OUTSIDE, EMPTY, "kept", 100, 0, 9);
        EDGE.refused(OUTSIDE, EMPTY, "kept", -1, -1, 0);
        EDGE.refused(OUTSIDE, NOT_EMPTY, "kept", 100, 99999, 0);
        EDGE.refused(OUTSIDE, NOT_EMPTY, "kept", -1, 99999, 9);
    }

    private static void keptHowMany() {
        EDGE.sentence("12: how many (i = -1; picture is not looked at)");
        CopiedSkins x = pictures("", 7, 7);
        int[] any = {MIN, -1, 0, 1, 2, 6, 9, 10, MAX};
        for (int p : any) {
            EDGE.answers(x, 2, "kept", 0, -1, p);
        }
    }

    private static void keptNoSuchTree() {
        EDGE.sentence("12: NONE: there is no i-th");
        CopiedSkins x = pictures("", 7, 7);
        isRow(x, 0, 0, 20, 1, 9);
        isRow(x, 0, 1, 20, 9, 0);
        int[] not = {MIN, MIN + 1, -65536, -3, -2, 2, 3, 32, 256, 65536, MAX};
        for (int i : not) {
            EDGE.answers(x, NONE, "kept", 0, i, 0);
            EDGE.answers(x, NONE, "kept", 0, i, 1);
            EDGE.answers(x, NONE, "kept", 0, i, 9);
        }
        EDGE.onlyAsks(NOT_EMPTY, "kept", 0, MAX, 9);
        CopiedSkins six = pictures("", 7, 7, 7, 7, 7, 7);
        six.set(0, 0);
        isRow(six, 0, 16806, 0, 9, 9, 9, 9, 9, 9);
        EDGE.answers(six, NONE, "kept", 0, 16807, 0);
    }

    /** Trees 1 9, 9 0, 9 9 cost 27, 20, 40. */
    private static void keptCostNoMore() {
        EDGE.sentence("12: TREES that cost no more than a number above LEAST");
        CopiedSkins x = pictures("01=0;10=7", 0, 1);
        int[] more = {0, 6, 7, 8, 19, 20, 21, 99};
        int[] count = {1, 1, 2, 2, 2, 3, 3, 3};
        for (int k = 0; k < more.length; k++) {
            EDGE.answers(x, count[k], "kept", more[k], -1, 0);
            EDGE.answers(x, NONE, "kept", more[k], count[k], 9);
        }
        isRow(x, 6, 0, 20, 9, 0);
        isRow(x, 7, 0, 27, 1, 9);
        isRow(x, 7, 1, 20, 9, 0);
        isRow(x, 20, 2, 40, 9, 9);
    }

    private static void keptByNinetyNine() {
        EDGE.sentence("12: a number (0 to 99) above LEAST: 99 more is kept, 100 more is not");
        CopiedSkins just = pictures("01=0;10=99", 0, 1);
        EDGE.answers(just, 3, "kept", 99, -1, 0);
        EDGE.answers(just, 2, "kept", 98, -1, 0);
        isRow(just, 99, 0, 119, 1, 9);
        CopiedSkins above = pictures("01=0;10=50", 0, 5);
        EDGE.answers(above, 2, "kept", 99, -1, 0);
        isRow(above, 99, 0, 20, 9, 0);
        EDGE.answers(above, 3, "least", 2);
    }

    // ---- promise 13

    private static void sureNumber() {
        EDGE.sentence("13: a number (0 to 99); OUTSIDE: the number");
        EDGE.bounds(OUTSIDE, ALL, 0, 0, 99, "sure", 0, 9);
        EDGE.bounds(OUTSIDE, NOT_EMPTY, 0, 0, 99, "sure", 0, 0);
    }

    private static void surePicture() {
        EDGE.sentence("13: PICTURES traced from one, or drawn anew (picture = 9); UNKNOWN");
        int[] never = {MIN, -2, -1, 6, 7, 8, 10, 32, 41, MAX};
        for (int p : never) {
            EDGE.refused(UNKNOWN, ALL, "sure", 0, p);
        }
        EDGE.refused(UNKNOWN, EMPTY, "sure", 0, 0);
        EDGE.refused(UNKNOWN, HALF, "sure", 0, 3);
        EDGE.sentence("13: UNKNOWN is answered ahead of OUTSIDE and of STATE");
        EDGE.refused(UNKNOWN, ALL, "sure", 100, 6);
        EDGE.refused(UNKNOWN, EMPTY, "sure", -1, 0);
    }

    private static void sureState() {
        EDGE.sentence("13: STATE: no PICTURES");
        EDGE.refused(STATE, EMPTY, "sure", 0, 9);
        EDGE.refused(STATE, EMPTY, "sure", 99, 9);
        EDGE.sentence("13: OUTSIDE is answered ahead of STATE");
        EDGE.refused(OUTSIDE, EMPTY, "sure", 100, 9);
        EDGE.refused(OUTSIDE, EMPTY, "sure", -1, 9);
    }

    /** Trees 1 9, 9 0, 9 9 cost 119, 20, 40. */
    private static void sureInAllKept() {
        EDGE.sentence("13: the second was traced from the first in all KEPT ones by a number");
        CopiedSkins x = pictures("01=0;10=99", 0, 1);
        int[] more = {0, 19, 20, 98, 99};
        int[] fromFirst = {2, 2, 0, 0, 0};
        int[] anew = {1, 1, 1, 1, 0};
        for (int k = 0; k < more.length; k++) {
            EDGE.answers(x, fromFirst[k], "sure", more[k], 0);
            EDGE.answers(x, 0, "sure", more[k], 1);
            EDGE.answers(x, anew[k], "sure", more[k], 9);
        }
    }

    private static void sureOfOneAndOfSix() {
        EDGE.sentence("13: bits, of one PICTURE and of six");
        CopiedSkins one = pictures("", 7);
        EDGE.answers(one, 1, "sure", 99, 9);
        EDGE.answers(one, 0, "sure", 99, 0);
        CopiedSkins six = pictures("", 0, 1, 2, 3, 4, 8);
        six.set(0, 0);
        EDGE.answers(six, 63, "sure", 0, 9);
        EDGE.answers(six, 63, "sure", 9, 9);
        EDGE.answers(six, 0, "sure", 10, 9);
        CopiedSkins star = new CopiedSkins();
        Due.law(star, "0*=0");
        star.picture(0, 0, 0);
        for (int p = 1; p < 6; p++) {
            star.picture(5 << 2 * p, 50, 60);
        }
        EDGE.answers(star, 62, "sure", 0, 0);
        EDGE.answers(star, 1, "sure", 0, 9);
        EDGE.answers(star, 0, "sure", 0, 5);
    }

    private static void treesFollowWhatChanges() {
        EDGE.sentence("11 to 13: trees of PICTURES, YEARS, THE LAW, NEW as they are now");
        CopiedSkins x = new CopiedSkins();
        x.picture(0, 50, 60);
        EDGE.answers(x, 20, "least", 0);
        x.picture(1, 10, 55);
        EDGE.answers(x, 3, "least", 2);
        EDGE.answers(x, 30, "least", 0);
        x.width(1, 60);
        x.image(0);
        // its year is 49 then: ahead of all of picture 0's
        EDGE.answers(x, 1, "take", 1);
        EDGE.answers(x, 2, "least", 2);
        EDGE.answers(x, 2, "sure", 99, 9);
        x.set(0, 4);
        EDGE.answers(x, 8, "least", 0);
        Due.law(x, "10=1");
        EDGE.answers(x, 5, "least", 0);
        EDGE.answers(x, 1, "kept", 0, 0, 0);
        x.restore(0);
        EDGE.answers(x, 3, "least", 2);
        EDGE.answers(x, 30, "least", 0);
    }

    // ---- promise 14

    private static void lostPicture() {
        EDGE.sentence("14: UNKNOWN: the PICTURE (-1 may be)");
        int[] never = {MIN, -65536, -3, -2, 6, 8, 9, 31, 32, MAX};
        for (int p : never) {
            EDGE.refused(UNKNOWN, ALL, "lost", p, 1, 0);
        }
        EDGE.refused(UNKNOWN, EMPTY, "lost", 0, 0, 0);
        EDGE.refused(UNKNOWN, HALF, "lost", 3, 1, 0);
        CopiedSkins x = pictures("", 7, 7);
        EDGE.answers(x, 20, "lost", -1, 1, 1);
        EDGE.answers(x, 0, "lost", 0, 2, 1);
        EDGE.answers(x, 0, "lost", 1, 1, 1);
    }

    private static void lostOthers() {
        EDGE.sentence("14: UNKNOWN: others that are not there");
        EDGE.refused(UNKNOWN, EMPTY, "lost", -1, 1, 0);
        EDGE.refused(UNKNOWN, HALF, "lost", 0, 8, 0);
        EDGE.refused(UNKNOWN, HALF, "lost", 0, 8 + 2, 0);
        EDGE.refused(UNKNOWN, HALF, "lost", -1, 15, 0);
        EDGE.refused(UNKNOWN, HALF, "lost", -1, 32, 0);
        EDGE.refused(UNKNOWN, FULL, "lost", 0, 64, 0);
        EDGE.refused(UNKNOWN, FULL, "lost", 0, 64 + 62, 0);
        int[] never = {MIN, MIN + 2, -2, -1, 64, 255, 256, 65536, 1 << 30, MAX};
        for (int others : never) {
            EDGE.refused(UNKNOWN, ALL, "lost", -1, others, 0);
        }
        CopiedSkins six = pictures("", 7, 7, 7, 7, 7, 7);
        EDGE.answers(six, 20, "lost", -1, 63, 1);
        EDGE.answers(six, 0, "lost", 0, 62, 1);
        EDGE.answers(six, 0, "lost", 5, 31, 1);
        EDGE.answers(six, 20, "lost", -1, 32, 1);
    }

    private static void lostNoneOfOthers() {
        EDGE.sentence("14: OUTSIDE: none of others");
        EDGE.refused(OUTSIDE, ALL, "lost", -1, 0, 0);
        EDGE.refused(OUTSIDE, NOT_EMPTY, "lost", 0, 0, 2);
    }

    private static void lostAmongOthers() {
        EDGE.sentence("14: OUTSIDE: the PICTURE is among them");
        for (int p = 0; p < 6; p++) {
            EDGE.refused(OUTSIDE, FULL, "lost", p, 1 << p, 0);
            EDGE.refused(OUTSIDE, FULL, "lost", p, 63, 1);
        }
        EDGE.refused(OUTSIDE, HALF, "lost", 2, 7, 0);
    }

    private static void lostWhat() {
        EDGE.sentence("14: OUTSIDE: what");
        EDGE.bounds(OUTSIDE, NOT_EMPTY, 2, 0, 2, "lost", -1, 3, 0);
        EDGE.bounds(OUTSIDE, NOT_EMPTY, 2, 0, 2, "lost", 0, 6, 0);
    }

    private static void lostOrderOfRefusals() {
        EDGE.sentence("14: UNKNOWN is answered ahead of OUTSIDE");
        EDGE.refused(UNKNOWN, ALL, "lost", 6, 0, 3);
        EDGE.refused(UNKNOWN, ALL, "lost", -2, 0, 0);
        EDGE.refused(UNKNOWN, ALL, "lost", -1, 64, 3);
        EDGE.refused(UNKNOWN, HALF, "lost", 0, 1 + 8, 0);
        EDGE.refused(UNKNOWN, HALF, "lost", 3, 8, 0);
    }

    private static void lostLeastNumber() {
        EDGE.sentence("14: that by which it is least, of several the least number");
        CopiedSkins free = pictures("**=0", 65535, 65535);
        EDGE.answers(free, 0, "lost", 0, 2, 0);
        EDGE.answers(free, 0, "lost", -1, 3, 0);
        CopiedSkins x = pictures("**=1", 65535, 65535, 0);
        EDGE.answers(x, 65535, "lost", 0, 2, 0);
        EDGE.answers(x, 65535, "lost", -1, 3, 0);
        // from all thick to none: each stroke may slip on either way
        EDGE.answers(x, 0, "lost", 0, 4, 0);
        EDGE.answers(x, 0, "lost", 2, 1, 0);
        EDGE.answers(x, 65535, "lost", 2, 3, 0);
        EDGE.answers(x, 8, "lost", 2, 3, 1);
        // to plain by plain is nothing, by turned or thick 2 a stroke, by none 18
        CopiedSkins between = pictures("10=9;01=9;**=1", 21845, 21845);
        EDGE.answers(between, 21845, "lost", 0, 2, 0);
        EDGE.answers(between, 0, "lost", 0, 2, 1);
    }

    private static void lostIsTracedFromTheOne() {
        EDGE.sentence("14: traced from the one, and from which the others were traced: COST of these together");
        CopiedSkins x = pictures("**=1", 0, 65535, 65535);
        // slips on the way to it cost as much as slips behind it
        EDGE.answers(x, 0, "lost", 0, 2, 0);
        EDGE.answers(x, 8, "lost", 0, 2, 1);
        EDGE.answers(x, 65535, "lost", 0, 6, 0);
        EDGE.answers(x, 0, "lost", 1, 1, 0);
        EDGE.sentence("14: PICTURE 0 among the others counts as any");
        EDGE.answers(x, 65535, "lost", -1, 7, 0);
        EDGE.answers(x, 28, "lost", -1, 7, 1);
        EDGE.answers(x, 8, "lost", 1, 5, 1);
    }

    private static void lostSaves() {
        EDGE.sentence("14: SAVES (2; may be below 0: told 10000 more)");
        CopiedSkins x = pictures("**=1", 0, 65535, 65535);
        EDGE.answers(x, 10008, "lost", 0, 6, 2);
        EDGE.answers(x, 10000, "lost", 0, 2, 2);
        x.set(0, 7);
        // two drawn anew are 14; one anew and eight slips 15
        EDGE.answers(x, 9999, "lost", -1, 3, 2);
        x.set(0, 8);
        EDGE.answers(x, 10000, "lost", -1, 3, 2);
        x.set(0, 9);
        EDGE.answers(x, 10001, "lost", -1, 3, 2);
    }

    private static void lostSavesEnds() {
        EDGE.sentence("14: SAVES, the least and the greatest of all");
        CopiedSkins least = pictures("**=99", 0, 65535, 21845, 43690, 0, 65535);
        least.set(0, 0);
        EDGE.answers(least, 0, "lost", -1, 63, 0);
        EDGE.answers(least, 3168, "lost", -1, 63, 1);
        EDGE.answers(least, 6832, "lost", -1, 63, 2);
        CopiedSkins greatest = pictures("**=99", 0, 65535, 65535, 65535, 65535, 65535);
        EDGE.answers(greatest, 65535, "lost", 0, 62, 0);
        EDGE.answers(greatest, 792, "lost", 0, 62, 1);
        EDGE.answers(greatest, 13168, "lost", 0, 62, 2);
    }

    private static void lostYearsDoNotMatter() {
        EDGE.sentence("14: (YEARS do not matter)");
        CopiedSkins x = new CopiedSkins();
        x.picture(0, 99, 99);
        x.picture(5, 0, 0);
        x.picture(5, 50, 50);
        EDGE.answers(x, 5, "lost", 0, 6, 0);
        EDGE.answers(x, 20, "lost", 0, 6, 1);
        EDGE.answers(x, 10020, "lost", 0, 6, 2);
    }
}
