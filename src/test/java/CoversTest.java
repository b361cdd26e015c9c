/** Promises 19 to 22: what strokes hide, covers, what may lie underneath. */
public final class CoversTest {
    private static final Due DUE = new Due();

    public static void main(String[] args) {
        hide();
        hides();
        covers();
        unders();
        DUE.end();
    }

    private static void hide() {
        CopiedSkins x = new CopiedSkins();
        DUE.is("hide -1", x.hide(-1, false, 0), CopiedSkins.UNKNOWN);
        DUE.is("hide 8", x.hide(8, false, 0), CopiedSkins.UNKNOWN);
        DUE.is("hide, unknown goes ahead", x.hide(8, false, 256), CopiedSkins.UNKNOWN);
        DUE.is("hide bits 256", x.hide(7, true, 256), CopiedSkins.OUTSIDE);
        DUE.is("hide bits -1", x.hide(0, true, -1), CopiedSkins.OUTSIDE);
        DUE.is("hide thick", x.hide(7, true, 255), 128);
        DUE.is("hide thick again", x.hide(7, true, 3), 255);
        DUE.is("hide plain is another", x.hide(7, false, 9), 128);
        DUE.is("hide thick stays", x.hide(7, true, 0), 3);
        DUE.is("hide plain again", x.hide(7, false, 128), 9);
    }

    private static void hides() {
        CopiedSkins x = new CopiedSkins();
        DUE.is("hides nothing", x.hides(0, 0), 0);
        DUE.is("ink of nothing", x.hides(0, 1), 0);
        DUE.is("hides itself", x.hides(Due.drawing("01230001"), 0), 2 + 4 + 8 + 128);
        DUE.is("ink", x.hides(Due.drawing("01230001"), 1), 5);
        DUE.is("ink of all", x.hides(65535, 1), 16);
        x.hide(1, false, 16);
        x.hide(2, false, 96);
        x.hide(3, true, 1);
        DUE.is("hides others", x.hides(Due.drawing("01230000"), 0), 16 + 96 + 1);
        DUE.is("hides -1", x.hides(-1, 0), CopiedSkins.OUTSIDE);
        DUE.is("hides 65536", x.hides(65536, 0), CopiedSkins.OUTSIDE);
        DUE.is("hides what -1", x.hides(0, -1), CopiedSkins.OUTSIDE);
        DUE.is("hides what 2", x.hides(0, 2), CopiedSkins.OUTSIDE);
    }

    private static void covers() {
        CopiedSkins x = new CopiedSkins();
        DUE.is("cover of nothing", x.cover(0), 0);
        DUE.is("cover of all", x.cover(65535), Due.drawing("11111111"));
        DUE.is("cover of some", x.cover(Due.drawing("02003000")), Due.drawing("01001000"));
        x.hide(0, true, 7);
        DUE.is("two plain ones or a thick one: the least number", x.cover(Due.drawing("01100000")),
                Due.drawing("01100000"));
        DUE.is("three plain ones cost more", x.cover(Due.drawing("11100000")), Due.drawing("30000000"));
        DUE.is("with another", x.cover(Due.drawing("11110000")), Due.drawing("30010000"));
        x.hide(7, true, 6);
        DUE.is("a thick one of a lesser number", x.cover(Due.drawing("01100000")), Due.drawing("00000003"));
        DUE.is("three by thick and plain", x.cover(Due.drawing("11100000")), Due.drawing("30000000"));
        x.hide(7, false, 255);
        DUE.is("one plain for all", x.cover(65535), 1);
        for (int s = 0; s < 8; s++) {
            x.hide(s, false, 0);
            x.hide(s, true, 1 << s);
        }
        DUE.is("thick ones alone hide", x.cover(Due.drawing("10000002")), Due.drawing("30000003"));
        DUE.is("all by thick ones", x.cover(Due.drawing("11111111")), 65535);
        x.hide(3, true, 0);
        DUE.is("nothing hides it", x.cover(Due.drawing("00010000")), CopiedSkins.NONE);
        DUE.is("nothing hides all of it", x.cover(65535), CopiedSkins.NONE);
        DUE.is("nothing to hide", x.cover(0), 0);
        DUE.is("cover -1", x.cover(-1), CopiedSkins.OUTSIDE);
        DUE.is("cover 65536", x.cover(65536), CopiedSkins.OUTSIDE);
    }

    private static void unders() {
        CopiedSkins x = new CopiedSkins();
        x.picture(0, 0, 9);
        x.picture(Due.drawing("10000000"), 0, 9);
        x.picture(Due.drawing("20000000"), 0, 9);
        x.picture(Due.drawing("12000000"), 0, 9);
        DUE.is("under nothing", x.under(0), 1);
        DUE.is("under a stroke that hides itself", x.under(Due.drawing("10000000")), 7);
        x.hide(0, false, 0);
        DUE.is("what shows is alike", x.under(Due.drawing("10000000")), 3);
        DUE.is("what shows is turned", x.under(Due.drawing("20000000")), 5);
        DUE.is("a thick one hides it", x.under(Due.drawing("30000000")), 7);
        DUE.is("both show", x.under(Due.drawing("12000000")), 11);
        x.hide(1, false, 0);
        DUE.is("both show, none is hidden", x.under(Due.drawing("12000000")), 11);
        DUE.is("one of them is not alike", x.under(Due.drawing("11000000")), 3);
        x.hide(5, true, 3);
        DUE.is("another hides both", x.under(Due.drawing("00000300")), 15);
        DUE.is("under -1", x.under(-1), CopiedSkins.OUTSIDE);
        DUE.is("under 65536", x.under(65536), CopiedSkins.OUTSIDE);
    }
}
