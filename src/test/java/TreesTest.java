/** Promises 11 to 14: trees, those that are kept, those that are sure, lost pictures. */
public final class TreesTest {
    private static final Due DUE = new Due();

    public static void main(String[] args) {
        refusals();
        onePicture();
        twoPictures();
        years();
        allTrees();
        freshness();
        lost();
        lostRefusals();
        DUE.end();
    }

    private static void refusals() {
        CopiedSkins x = new CopiedSkins();
        DUE.is("least of none", x.least(0), CopiedSkins.STATE);
        DUE.is("least -1", x.least(-1), CopiedSkins.OUTSIDE);
        DUE.is("least 3", x.least(3), CopiedSkins.OUTSIDE);
        DUE.is("kept of none, of a picture", x.kept(0, 0, 0), CopiedSkins.UNKNOWN);
        DUE.is("kept of none, its cost", x.kept(0, 0, 9), CopiedSkins.STATE);
        DUE.is("kept of none, how many", x.kept(0, -1, 77), CopiedSkins.STATE);
        DUE.is("kept, unknown goes ahead", x.kept(-1, 0, 0), CopiedSkins.UNKNOWN);
        DUE.is("kept, outside goes ahead", x.kept(100, 0, 9), CopiedSkins.OUTSIDE);
        DUE.is("sure of none, of a picture", x.sure(0, 0), CopiedSkins.UNKNOWN);
        DUE.is("sure of none, drawn anew", x.sure(0, 9), CopiedSkins.STATE);
        DUE.is("sure, unknown goes ahead", x.sure(100, -1), CopiedSkins.UNKNOWN);
        DUE.is("sure, outside goes ahead", x.sure(-1, 9), CopiedSkins.OUTSIDE);
        x.picture(0, 0, 99);
        DUE.is("kept -1", x.kept(-1, -1, 0), CopiedSkins.OUTSIDE);
        DUE.is("kept 100", x.kept(100, 0, 0), CopiedSkins.OUTSIDE);
        DUE.is("kept of picture 1", x.kept(0, 0, 1), CopiedSkins.UNKNOWN);
        DUE.is("kept of picture -1", x.kept(0, 0, -1), CopiedSkins.UNKNOWN);
        DUE.is("kept of picture 8", x.kept(0, 0, 8), CopiedSkins.UNKNOWN);
        DUE.is("kept of picture 10", x.kept(0, 0, 10), CopiedSkins.UNKNOWN);
        DUE.is("kept: how many looks at no picture", x.kept(0, -1, -4), 1);
        DUE.is("kept: there is no tree 1", x.kept(99, 1, 0), CopiedSkins.NONE);
        DUE.is("kept: there is no tree -2", x.kept(99, -2, 0), CopiedSkins.NONE);
        DUE.is("kept: there is no tree far off", x.kept(99, Integer.MAX_VALUE, 9), CopiedSkins.NONE);
        DUE.is("sure of picture 1", x.sure(0, 1), CopiedSkins.UNKNOWN);
        DUE.is("sure 100", x.sure(100, 0), CopiedSkins.OUTSIDE);
    }

    private static void onePicture() {
        CopiedSkins x = new CopiedSkins();
        x.picture(4711, 3, 4);
        DUE.is("one: least", x.least(0), 20);
        DUE.is("one: of least cost", x.least(1), 1);
        DUE.is("one: trees", x.least(2), 1);
        DUE.is("one: kept", x.kept(99, 0, 0), 9);
        DUE.is("one: its cost", x.kept(99, 0, 9), 20);
        DUE.is("one: sure", x.sure(99, 9), 1);
        DUE.is("one: sure from itself", x.sure(99, 0), 0);
    }

    /** 0 to 1 costs 10, 1 to 0 costs 12: trees 1 9 (32), 9 0 (30), 9 9 (40). */
    private static void twoPictures() {
        CopiedSkins x = new CopiedSkins();
        Due.law(x, "10=12");
        x.picture(0, 0, 99);
        x.picture(1, 0, 99);
        DUE.is("two: least", x.least(0), 30);
        DUE.is("two: of least cost", x.least(1), 1);
        DUE.is("two: trees", x.least(2), 3);
        int[] counts = {1, 1, 2, 2, 2, 2, 2, 2, 2, 2, 3};
        for (int more = 0; more < counts.length; more++) {
            DUE.is("two: kept by " + more, x.kept(more, -1, 0), counts[more]);
        }
        int[][] rows = {{1, 9, 32}, {9, 0, 30}, {9, 9, 40}};
        for (int i = 0; i < 3; i++) {
            DUE.is("two: source of 0", x.kept(10, i, 0), rows[i][0]);
            DUE.is("two: source of 1", x.kept(10, i, 1), rows[i][1]);
            DUE.is("two: cost", x.kept(10, i, 9), rows[i][2]);
        }
        DUE.is("two: the first of one is another", x.kept(1, 0, 0), 9);
        DUE.is("two: sure from 0", x.sure(0, 0), 2);
        DUE.is("two: sure anew", x.sure(0, 9), 1);
        DUE.is("two: sure from 1", x.sure(0, 1), 0);
        DUE.is("two: no more sure from 0", x.sure(2, 0), 0);
        DUE.is("two: no more sure anew", x.sure(2, 9), 0);
        DUE.is("two: still sure anew", x.sure(1, 9), 1);
        x.set(0, 11);
        // trees cost 23, 21, 22 then
        DUE.is("two: of least cost, not a little more", x.least(1), 1);
        DUE.is("two: a little more", x.kept(1, -1, 0), 2);
        DUE.is("two: the cheapest one", x.kept(0, 0, 1), 0);
        x.set(0, 5);
        DUE.is("two: both anew", x.sure(0, 9), 3);
    }

    /** A picture may be traced from one whose least year is no more than its own greatest. */
    private static void years() {
        CopiedSkins x = new CopiedSkins();
        x.picture(0, 50, 60);
        x.picture(0, 10, 50);
        DUE.is("years that touch", x.least(2), 3);
        CopiedSkins y = new CopiedSkins();
        y.picture(0, 51, 60);
        y.picture(0, 10, 50);
        DUE.is("years that do not", y.least(2), 2);
        DUE.is("the older is drawn anew", y.sure(99, 9), 2);
        DUE.is("the younger is traced from it", y.kept(0, 0, 0), 1);
        CopiedSkins z = new CopiedSkins();
        z.picture(0, 51, 60);
        z.picture(0, 10, 55);
        z.width(1, 60);
        DUE.is("years ahead of take", z.least(2), 3);
        DUE.is("take", z.take(1), 1);
        DUE.is("years after take", z.least(2), 2);
    }

    private static void allTrees() {
        int[] counts = {1, 3, 16, 125, 1296, 16807};
        CopiedSkins x = new CopiedSkins();
        for (int n = 1; n <= 6; n++) {
            x.picture(0, 0, 99);
            DUE.is("trees of " + n, x.least(2), counts[n - 1]);
        }
        DUE.is("least cost of alike ones", x.least(0), 20);
        DUE.is("all chains from one", x.least(1), 6 * 1296);
        DUE.is("kept by 19", x.kept(19, -1, 0), 6 * 1296);
        DUE.is("the last one", x.kept(99, 16806, 0), CopiedSkins.NONE);
        x.set(0, 0);
        DUE.is("all cost nothing", x.least(1), 16807);
        for (int p = 0; p < 6; p++) {
            DUE.is("the last row", x.kept(0, 16806, p), 9);
        }
        int[] first = {1, 2, 3, 4, 5, 9};
        for (int p = 0; p < 6; p++) {
            DUE.is("the first row", x.kept(0, 0, p), first[p]);
        }
        DUE.is("none is sure", x.sure(0, 9), 0);
        DUE.is("there is no more", x.kept(0, 16807, 9), CopiedSkins.NONE);
    }

    /** Answers follow whatever changes what the trees hang on. */
    private static void freshness() {
        CopiedSkins x = new CopiedSkins();
        x.picture(0, 0, 99);
        x.picture(1, 0, 99);
        DUE.is("ahead of all", x.least(0), 30);
        x.image(0);
        x.set(0, 7);
        DUE.is("after set", x.least(0), 14);
        x.set(1, 50);
        DUE.is("after another set", x.least(0), 14);
        Due.law(x, "**=1");
        DUE.is("after law", x.least(0), 8);
        x.picture(2, 0, 99);
        DUE.is("after picture", x.least(0), 9);
        x.restore(0);
        DUE.is("after restore", x.least(0), 30);
        DUE.is("after restore, trees", x.least(2), 3);
    }

    private static void lost() {
        CopiedSkins x = new CopiedSkins();
        Due.law(x, "01=4;02=5;*1=6;1*=7;**=9");
        x.picture(Due.drawing("01230000"), 99, 99);
        x.picture(Due.drawing("11110000"), 0, 0);
        x.picture(Due.drawing("22220000"), 0, 0);
        // stroke 0 from 0 to 1 and 2: by 0 4+5, by 1 4+0+7, by 2 5+6+0, by 3 9+6+9
        // stroke 1 from 1 to 1 and 2: by 0 7+4+5, by 1 0+0+7; stroke 2 from 2: by 2 6+0; stroke 3 from 3: by 3 6+9, by 1 6+7, by 0 9+4+5, by 2 9+6
        DUE.is("lost drawing", x.lost(0, 6, 0), Due.drawing("01210000"));
        DUE.is("lost cost", x.lost(0, 6, 1), 9 + 7 + 6 + 13);
        DUE.is("lost saves", x.lost(0, 6, 2), 10000 + (4 + 0 + 6 + 6) + (5 + 7 + 0 + 9) - 35);
        DUE.is("lost to one", x.lost(0, 2, 0), Due.drawing("01110000"));
        DUE.is("lost to one, of several the least", x.lost(0, 2, 2), 10000);
        // drawn anew: each stroke by 0 4+5, by 1 7, by 2 6, by 3 15
        DUE.is("lost anew", x.lost(-1, 6, 0), Due.drawing("22220000"));
        DUE.is("lost anew, cost", x.lost(-1, 6, 1), 20 + 24);
        DUE.is("lost anew, saves below nothing", x.lost(-1, 6, 2), 10000 + 40 - 44);
        x.set(0, 99);
        DUE.is("lost anew, NEW is told otherwise", x.lost(-1, 6, 1), 99 + 24);
        DUE.is("lost anew, it saves then", x.lost(-1, 6, 2), 10000 + 198 - 123);
        // strokes 0 to 3 from 2 to 0, 1, 2, 3: 9, 6, 0, 9; a thick one is as dear as a turned one on the way
        DUE.is("lost to the first", x.lost(2, 1, 2), 10000);
        DUE.is("lost to the first, drawing", x.lost(2, 1, 0), Due.drawing("01220000"));
        DUE.is("lost to the first, cost", x.lost(2, 1, 1), 9 + 6 + 0 + 9);
        CopiedSkins y = new CopiedSkins();
        Due.law(y, "**=0");
        y.picture(65535, 0, 0);
        y.picture(65535, 0, 0);
        DUE.is("all are as good: the least number", y.lost(0, 2, 0), 0);
        Due.law(y, "**=1");
        DUE.is("only itself is good", y.lost(0, 2, 0), 65535);
    }

    private static void lostRefusals() {
        CopiedSkins x = new CopiedSkins();
        x.picture(1, 0, 9);
        x.picture(2, 0, 9);
        DUE.is("lost of picture -2", x.lost(-2, 1, 0), CopiedSkins.UNKNOWN);
        DUE.is("lost of picture 2", x.lost(2, 1, 0), CopiedSkins.UNKNOWN);
        DUE.is("lost with others that are not there", x.lost(0, 4, 0), CopiedSkins.UNKNOWN);
        DUE.is("lost with one that is not there", x.lost(0, 6, 0), CopiedSkins.UNKNOWN);
        DUE.is("lost with bits below nothing", x.lost(0, -1, 0), CopiedSkins.UNKNOWN);
        DUE.is("lost, unknown goes ahead", x.lost(0, 8, 3), CopiedSkins.UNKNOWN);
        DUE.is("lost of none of others", x.lost(0, 0, 0), CopiedSkins.OUTSIDE);
        DUE.is("lost of itself", x.lost(0, 1, 0), CopiedSkins.OUTSIDE);
        DUE.is("lost with itself among others", x.lost(1, 3, 0), CopiedSkins.OUTSIDE);
        DUE.is("lost -1", x.lost(0, 2, -1), CopiedSkins.OUTSIDE);
        DUE.is("lost 3", x.lost(0, 2, 3), CopiedSkins.OUTSIDE);
    }
}
