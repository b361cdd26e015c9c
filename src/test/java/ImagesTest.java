/** Promises 29 and 30: what images keep, and what they leave alone. */
public final class ImagesTest {
    private static final Due DUE = new Due();

    public static void main(String[] args) {
        refusals();
        kept();
        leftAlone();
        twoImages();
        DUE.end();
    }

    private static void refusals() {
        CopiedSkins x = new CopiedSkins();
        DUE.is("image -1", x.image(-1), CopiedSkins.OUTSIDE);
        DUE.is("image 2", x.image(2), CopiedSkins.OUTSIDE);
        DUE.is("restore -1", x.restore(-1), CopiedSkins.OUTSIDE);
        DUE.is("restore 2", x.restore(2), CopiedSkins.OUTSIDE);
        DUE.is("restore of nothing", x.restore(1), CopiedSkins.STATE);
        DUE.is("image 0", x.image(0), 1);
        DUE.is("restore of the other one", x.restore(1), CopiedSkins.STATE);
        DUE.is("restore 0", x.restore(0), 1);
    }

    private static void fill(CopiedSkins x, int k) {
        x.picture(100 + k, k, 50 + k);
        x.width(0, 60 + k);
        Due.law(x, k == 1 ? "01=1" : "01=2;12=3");
        for (int which = 0; which < 4; which++) {
            x.set(which, k + which);
        }
        x.spread(0, k, k + 1);
        x.spread(1, k + 2, k + 3);
        x.hide(2, false, k);
        x.hide(3, true, k + 4);
    }

    private static void isAsFilled(String when, CopiedSkins x, int k) {
        DUE.is(when + ": drawing", x.about(0, 0), 101);
        DUE.is(when + ": width", x.about(0, 3), 60 + k);
        DUE.is(when + ": lines", x.told(2), k);
        DUE.is(when + ": slip", x.slip(0, 1), k);
        for (int which = 0; which < 4; which++) {
            DUE.is(when + ": set", x.told(5 + which), k + which);
        }
        DUE.is(when + ": plain", x.hides(Due.drawing("00100000"), 0), k);
        DUE.is(when + ": thick", x.hides(Due.drawing("00030000"), 0), k + 4);
    }

    private static void kept() {
        CopiedSkins x = new CopiedSkins();
        fill(x, 1);
        x.image(1);
        fill(x, 2);
        isAsFilled("ahead of restore", x, 2);
        DUE.is("two pictures", x.told(0), 2);
        x.width(1, 7);
        x.restore(1);
        isAsFilled("after restore", x, 1);
        DUE.is("one picture", x.told(0), 1);
        DUE.is("the other is not there", x.about(1, 0), CopiedSkins.UNKNOWN);
        DUE.is("a new one is a sheet", x.picture(5, 6, 7), 1);
        DUE.is("it is a sheet", x.about(1, 3), CopiedSkins.NONE);
        DUE.is("FIRST", x.spread(0, 50, 50), 102);
        DUE.is("SPREAD", x.spread(1, 50, 50), 304);
        x.restore(1);
        DUE.is("FIRST once more", x.spread(0, 50, 50), 102);
        DUE.is("SPREAD once more", x.spread(1, 50, 50), 304);
        isAsFilled("after another restore", x, 1);
    }

    private static void leftAlone() {
        CopiedSkins x = new CopiedSkins();
        x.man();
        x.image(0);
        x.man();
        x.meet(1, 30);
        x.sick(1, 31);
        Due.say(x, "abc");
        x.restore(0);
        DUE.is("men stay", x.told(3), 2);
        DUE.is("meetings stay", x.told(4), 1);
        DUE.is("sick men stay", x.firsts(1), 2);
        DUE.is("signs stay", x.told(1), 3);
    }

    private static void twoImages() {
        CopiedSkins x = new CopiedSkins();
        x.picture(1, 20, 90);
        x.width(0, 50);
        x.image(0);
        DUE.is("take", x.take(0), 1);
        x.image(1);
        x.restore(0);
        DUE.is("years of image 0", x.about(0, 1) * 100 + x.about(0, 2), 2090);
        x.restore(1);
        DUE.is("years of image 1", x.about(0, 1) * 100 + x.about(0, 2), 5959);
        CopiedSkins y = new CopiedSkins();
        y.image(0);
        y.picture(11, 1, 2);
        y.image(1);
        y.restore(0);
        y.picture(22, 3, 4);
        y.restore(1);
        DUE.is("drawing of image 1", y.about(0, 0), 11);
        DUE.is("least year of image 1", y.about(0, 1), 1);
        DUE.is("greatest year of image 1", y.about(0, 2), 2);
        x.set(0, 3);
        x.image(0);
        x.set(0, 4);
        x.restore(0);
        DUE.is("image 0 was kept anew", x.told(5), 3);
        DUE.is("with its years", x.about(0, 1), 59);
    }
}
