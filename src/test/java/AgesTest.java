/** Promises 15 to 18: widths, spans, ages. */
public final class AgesTest {
    private static final Due DUE = new Due();

    public static void main(String[] args) {
        widths();
        spreads();
        ages();
        takes();
        DUE.end();
    }

    private static void widths() {
        CopiedSkins x = new CopiedSkins();
        DUE.is("width of no picture", x.width(0, 1), CopiedSkins.UNKNOWN);
        x.picture(0, 0, 99);
        x.picture(0, 0, 99);
        DUE.is("width 1000", x.width(0, 1000), CopiedSkins.OUTSIDE);
        DUE.is("width -1", x.width(0, -1), CopiedSkins.OUTSIDE);
        DUE.is("width, unknown goes ahead", x.width(2, -1), CopiedSkins.UNKNOWN);
        DUE.is("it is a sheet still", x.width(0, 999), CopiedSkins.NONE);
        DUE.is("width was 999", x.width(0, 1), 999);
        DUE.is("the other is a sheet", x.about(1, 3), CopiedSkins.NONE);
        DUE.is("width was 1", x.width(0, 0), 1);
        DUE.is("it is a sheet again", x.width(0, 5), CopiedSkins.NONE);
    }

    private static void spreads() {
        CopiedSkins x = new CopiedSkins();
        int[][] wrong = {{-1, 1, 1}, {2, 1, 1}, {0, 0, 5}, {0, 1, 100}, {1, 6, 5}, {1, -3, 2}, {0, 100, 100}};
        for (int[] w : wrong) {
            DUE.is("spread outside", x.spread(w[0], w[1], w[2]), CopiedSkins.OUTSIDE);
        }
        DUE.is("FIRST at first", x.spread(0, 1, 99), 1010);
        DUE.is("SPREAD at first", x.spread(1, 2, 7), 101);
        DUE.is("FIRST then", x.spread(0, 5, 5), 199);
        DUE.is("SPREAD then", x.spread(1, 99, 99), 207);
        DUE.is("SPREAD at last", x.spread(1, 1, 1), 9999);
    }

    private static void ages() {
        CopiedSkins x = new CopiedSkins();
        DUE.is("aged of no picture", x.aged(0, 0), CopiedSkins.UNKNOWN);
        x.picture(0, 40, 50);
        DUE.is("aged of a sheet", x.aged(0, 0), CopiedSkins.STATE);
        DUE.is("aged, outside goes ahead", x.aged(0, 3), CopiedSkins.OUTSIDE);
        DUE.is("aged -1", x.aged(0, -1), CopiedSkins.OUTSIDE);
        DUE.is("aged, unknown goes ahead of all", x.aged(1, 3), CopiedSkins.UNKNOWN);
        agesOf(x, 10, 99, 99, 1);
        agesOf(x, 109, 0, 0, 1);
        x.width(0, 9);
        DUE.is("narrower than at first", x.aged(0, 0), CopiedSkins.NO);
        x.width(0, 110);
        DUE.is("wider than in all years", x.aged(0, 2), CopiedSkins.NO);
        x.set(1, 0);
        agesOf(x, 10, 0, 0, 1);
        x.width(0, 11);
        DUE.is("no years went by", x.aged(0, 1), CopiedSkins.NO);
        x.set(1, 20);
        x.spread(0, 3, 4);
        x.spread(1, 5, 6);
        // after 0 years 3 or 4, after 1 year 8 to 10, after 2 years 13, 14, 15 or 16
        agesOf(x, 3, 20, 20, 1);
        agesOf(x, 15, 18, 18, 1);
        x.width(0, 5);
        DUE.is("between two years", x.aged(0, 0), CopiedSkins.NO);
        // 64 = 4 + 5 * 12 = 4 + 6 * 10
        agesOf(x, 64, 8, 10, 2);
        // 124 = 4 + 6 * 20 = 4 + 5 * 24 (ahead of year 0)
        agesOf(x, 124, 0, 0, 1);
    }

    private static void agesOf(CopiedSkins x, int width, int first, int last, int count) {
        x.width(0, width);
        DUE.is("the least year by width " + width, x.aged(0, 0), first);
        DUE.is("the greatest year by width " + width, x.aged(0, 1), last);
        DUE.is("years by width " + width, x.aged(0, 2), count);
    }

    private static void takes() {
        CopiedSkins x = new CopiedSkins();
        DUE.is("take of no picture", x.take(0), CopiedSkins.UNKNOWN);
        x.picture(0, 20, 60);
        DUE.is("take of a sheet", x.take(0), CopiedSkins.STATE);
        x.spread(0, 1, 21);
        x.width(0, 60);
        // FIRST 1 to 21: 39 to 59 years since: 40 to 60
        DUE.is("take", x.take(0), 21);
        DUE.is("from 40", x.about(0, 1), 40);
        DUE.is("to 60", x.about(0, 2), 60);
        x.width(0, 50);
        // 29 to 49 years since: 50 to 70
        DUE.is("take more", x.take(0), 11);
        DUE.is("from 50", x.about(0, 1), 50);
        DUE.is("to 60 still", x.about(0, 2), 60);
        x.width(0, 39);
        // 61 to 81
        DUE.is("nothing would be left", x.take(0), CopiedSkins.NO);
        x.width(0, 40);
        // 60 to 80
        DUE.is("one year is left", x.take(0), 1);
        DUE.is("it is 60", x.about(0, 1), 60);
        x.width(0, 999);
        DUE.is("no year by width", x.take(0), CopiedSkins.NO);
        DUE.is("its years stay", x.about(0, 1) * 100 + x.about(0, 2), 6060);
        DUE.is("its width stays", x.about(0, 3), 999);
        CopiedSkins y = new CopiedSkins();
        y.picture(0, 0, 5);
        y.width(0, 5);
        DUE.is("no year by width, told from 0", y.take(0), CopiedSkins.NO);
    }
}
