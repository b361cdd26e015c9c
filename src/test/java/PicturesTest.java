/** Promises 1 to 10 and 31: a new object, pictures, what is set, signs, the law, slips and costs. */
public final class PicturesTest {
    private static final Due DUE = new Due();

    public static void main(String[] args) {
        newObject();
        pictures();
        abouts();
        settings();
        signs();
        faults();
        laws();
        slips();
        costs();
        tolds();
        DUE.end();
    }

    private static void newObject() {
        CopiedSkins x = new CopiedSkins();
        int[] want = {0, 0, 0, 0, 0, 20, 99, 10, 10};
        for (int what = 0; what < want.length; what++) {
            DUE.is("new told " + what, x.told(what), want[what]);
        }
        DUE.is("new: no picture", x.about(0, 0), CopiedSkins.UNKNOWN);
        DUE.is("new: no man", x.from(0), CopiedSkins.UNKNOWN);
        DUE.is("new: slip without a law", x.slip(0, 1), 10);
        DUE.is("new: slip of alike ones", x.slip(3, 3), 0);
        DUE.is("new: firsts", x.firsts(0), 0);
        DUE.is("new: sick men", x.firsts(1), 0);
        DUE.is("new: under", x.under(0), 0);
        DUE.is("new: FIRST", x.spread(0, 10, 10), 1010);
        DUE.is("new: SPREAD", x.spread(1, 1, 1), 101);
        for (int s = 0; s < 8; s++) {
            DUE.is("new: a plain stroke hides itself", x.hide(s, false, 0), 1 << s);
            DUE.is("new: a thick stroke hides itself", x.hide(s, true, 0), 1 << s);
        }
        DUE.is("new: no image 0", x.restore(0), CopiedSkins.STATE);
        DUE.is("new: no image 1", x.restore(1), CopiedSkins.STATE);
    }

    private static void pictures() {
        CopiedSkins x = new CopiedSkins();
        int[][] wrong = {{-1, 0, 0}, {65536, 0, 0}, {0, -1, 0}, {0, 0, 100}, {0, 6, 5}, {0, 100, 100}, {0, -2, -1},
            {Integer.MIN_VALUE, 0, 0}, {0, Integer.MIN_VALUE, Integer.MAX_VALUE}};
        for (int[] w : wrong) {
            DUE.is("picture outside", x.picture(w[0], w[1], w[2]), CopiedSkins.OUTSIDE);
        }
        DUE.is("nothing came of it", x.told(0), 0);
        DUE.is("picture least of all", x.picture(0, 0, 0), 0);
        DUE.is("picture greatest of all", x.picture(65535, 99, 99), 1);
        for (int p = 2; p < 6; p++) {
            DUE.is("picture", x.picture(p, p, 2 * p), p);
        }
        DUE.is("picture full", x.picture(0, 0, 0), CopiedSkins.FULL);
        DUE.is("outside goes ahead of full", x.picture(0, 1, 0), CopiedSkins.OUTSIDE);
        DUE.is("six of them", x.told(0), 6);
        DUE.is("the last is as it was", x.about(5, 0), 5);
    }

    private static void abouts() {
        CopiedSkins x = new CopiedSkins();
        x.picture(4711, 12, 34);
        DUE.is("about 0", x.about(0, 0), 4711);
        DUE.is("about 1", x.about(0, 1), 12);
        DUE.is("about 2", x.about(0, 2), 34);
        DUE.is("about 3 of a sheet", x.about(0, 3), CopiedSkins.NONE);
        x.width(0, 77);
        DUE.is("about 3 of a skin", x.about(0, 3), 77);
        DUE.is("about 4", x.about(0, 4), CopiedSkins.OUTSIDE);
        DUE.is("about -1", x.about(0, -1), CopiedSkins.OUTSIDE);
        DUE.is("about picture 1", x.about(1, 0), CopiedSkins.UNKNOWN);
        DUE.is("about picture -1", x.about(-1, 0), CopiedSkins.UNKNOWN);
        DUE.is("unknown goes ahead of outside", x.about(6, 9), CopiedSkins.UNKNOWN);
        DUE.is("about far off", x.about(Integer.MIN_VALUE, Integer.MAX_VALUE), CopiedSkins.UNKNOWN);
    }

    private static void settings() {
        int[] first = {20, 99, 10, 10};
        int[] low = {0, 0, 1, 1};
        int[] high = {99, 99, 30, 30};
        CopiedSkins x = new CopiedSkins();
        for (int which = 0; which < 4; which++) {
            DUE.is("set too low", x.set(which, low[which] - 1), CopiedSkins.OUTSIDE);
            DUE.is("set too high", x.set(which, high[which] + 1), CopiedSkins.OUTSIDE);
            DUE.is("set: first", x.set(which, low[which]), first[which]);
            DUE.is("set: lowest", x.set(which, high[which]), low[which]);
            DUE.is("set: highest", x.told(5 + which), high[which]);
        }
        DUE.is("set 4", x.set(4, 5), CopiedSkins.OUTSIDE);
        DUE.is("set -1", x.set(-1, 5), CopiedSkins.OUTSIDE);
        DUE.is("set far off", x.set(Integer.MAX_VALUE, Integer.MIN_VALUE), CopiedSkins.OUTSIDE);
    }

    private static void signs() {
        CopiedSkins x = new CopiedSkins();
        DUE.is("wipe nothing", x.wipe(), 0);
        DUE.is("say 32", x.say(32), CopiedSkins.OUTSIDE);
        DUE.is("say 127", x.say(127), CopiedSkins.OUTSIDE);
        DUE.is("say far off", x.say(Integer.MIN_VALUE), CopiedSkins.OUTSIDE);
        DUE.is("say 33", x.say(33), 1);
        DUE.is("say 126", x.say(126), 2);
        for (int n = 3; n <= 50; n++) {
            DUE.is("say", x.say('*'), n);
        }
        DUE.is("say full", x.say('*'), CopiedSkins.FULL);
        DUE.is("outside goes ahead of full", x.say(0), CopiedSkins.OUTSIDE);
        DUE.is("fifty signs", x.told(1), 50);
        DUE.is("wipe", x.wipe(), 50);
        DUE.is("no signs", x.told(1), 0);
        DUE.is("say again", x.say('0'), 1);
    }

    private static void faultOf(String text, int want) {
        CopiedSkins x = new CopiedSkins();
        Due.say(x, text);
        DUE.is("fault of " + text, x.fault(), want);
        DUE.is("fault once more of " + text, x.fault(), want);
        DUE.is("fault leaves the signs of " + text, x.told(1), text.length());
    }

    private static void faults() {
        faultOf("", 0);
        faultOf("0", 1);
        faultOf("03", 2);
        faultOf("03=", 3);
        faultOf("03=7", CopiedSkins.NONE);
        faultOf("03=70", CopiedSkins.NONE);
        faultOf("03=700", 5);
        faultOf("**=0", CopiedSkins.NONE);
        faultOf("4*=0", 0);
        faultOf("*4=0", 1);
        faultOf("/0=0", 0);
        faultOf("0/=0", 1);
        faultOf("00:0", 2);
        faultOf("000=0", 2);
        faultOf("00=*", 3);
        faultOf("00=;", 3);
        faultOf("00=/", 3);
        faultOf("00=:", 3);
        faultOf("00=1*", 4);
        faultOf("00=1/", 4);
        faultOf("00=9:", 4);
        faultOf("00=1=", 4);
        faultOf(";", 0);
        faultOf("00=1;", 5);
        faultOf("00=12;", 6);
        faultOf("00=1;;", 5);
        faultOf("00=1;1", 6);
        faultOf("00=1;12=99", CopiedSkins.NONE);
        faultOf("00=1;12=99;", 11);
        faultOf("00=1;12=99;~", 11);
        faultOf("00=x;4", 3);
        faultOf("00=1;00=1;00=1;00=1;00=1;00=1;00=1;00=1;00=1;00=1;", 50);
        faultOf("00=1;00=1;00=1;00=1;00=1;00=1;00=1;00=1;00=1;00=10", CopiedSkins.NONE);
    }

    private static void laws() {
        CopiedSkins x = new CopiedSkins();
        DUE.is("law of nothing", x.law(), CopiedSkins.NO);
        DUE.is("law of one line", Due.law(x, "01=5"), 1);
        DUE.is("signs are empty then", x.told(1), 0);
        DUE.is("lines", x.told(2), 1);
        Due.say(x, "12=3;");
        DUE.is("law with a fault", x.law(), CopiedSkins.NO);
        DUE.is("its signs stay", x.told(1), 5);
        DUE.is("the old law stays", x.slip(0, 1), 5);
        DUE.is("its lines stay", x.told(2), 1);
        Due.say(x, "21=4");
        DUE.is("law of two lines", x.law(), 2);
        DUE.is("the old law is gone", x.slip(0, 1), 10);
        DUE.is("the new law", x.slip(1, 2), 3);
        DUE.is("the new law's second line", x.slip(2, 1), 4);
        DUE.is("ten lines", Due.law(x, "00=1;00=1;00=1;00=1;00=1;00=1;00=1;00=1;00=1;23=98"), 10);
        DUE.is("the tenth line", x.slip(2, 3), 98);
        DUE.is("wipe leaves the law", x.wipe(), 0);
        DUE.is("the law after a wipe", x.slip(2, 3), 98);
    }

    private static void slips() {
        CopiedSkins x = new CopiedSkins();
        Due.law(x, "03=7;*3=8;0*=99;**=0;21=5");
        int[][] want = {{0, 99, 99, 7}, {0, 0, 0, 8}, {0, 0, 0, 8}, {0, 0, 0, 0}};
        for (int a = 0; a < 4; a++) {
            for (int b = 0; b < 4; b++) {
                DUE.is("slip " + a + " " + b, x.slip(a, b), want[a][b]);
            }
        }
        Due.law(x, "11=9;*1=05");
        DUE.is("alike ones never slip", x.slip(1, 1), 0);
        DUE.is("a digit 0 ahead", x.slip(2, 1), 5);
        DUE.is("no line fits", x.slip(2, 3), 10);
        DUE.is("slip -1", x.slip(-1, 0), CopiedSkins.OUTSIDE);
        DUE.is("slip 4", x.slip(4, 0), CopiedSkins.OUTSIDE);
        DUE.is("slip to -1", x.slip(0, -1), CopiedSkins.OUTSIDE);
        DUE.is("slip to 4", x.slip(0, 4), CopiedSkins.OUTSIDE);
    }

    private static void costs() {
        CopiedSkins x = new CopiedSkins();
        DUE.is("cost of alike ones", x.cost(4711, 4711), 0);
        DUE.is("cost of eight slips", x.cost(0, 65535), 80);
        Due.law(x, "01=1;10=2;12=3;*3=90");
        DUE.is("cost there", x.cost(Due.drawing("00000001"), Due.drawing("11000000")), 4);
        DUE.is("cost back", x.cost(Due.drawing("11000000"), Due.drawing("00000001")), 5);
        DUE.is("cost of far ones", x.cost(0, 65535), 720);
        DUE.is("cost of some", x.cost(Due.drawing("01230123"), Due.drawing("12301230")), 2 * (1 + 3 + 90 + 10));
        DUE.is("cost -1", x.cost(-1, 0), CopiedSkins.OUTSIDE);
        DUE.is("cost 65536", x.cost(65536, 0), CopiedSkins.OUTSIDE);
        DUE.is("cost to -1", x.cost(0, -1), CopiedSkins.OUTSIDE);
        DUE.is("cost to 65536", x.cost(0, 65536), CopiedSkins.OUTSIDE);
    }

    private static void tolds() {
        CopiedSkins x = new CopiedSkins();
        x.picture(0, 0, 0);
        x.picture(0, 0, 0);
        Due.law(x, "01=1;10=2;12=3");
        Due.say(x, "abcd");
        for (int i = 0; i < 5; i++) {
            x.man();
        }
        x.meet(0, 1);
        for (int which = 0; which < 4; which++) {
            x.set(which, 6 + which);
        }
        int[] want = {2, 4, 3, 5, 1, 6, 7, 8, 9};
        for (int what = 0; what < want.length; what++) {
            DUE.is("told " + what, x.told(what), want[what]);
        }
        DUE.is("told -1", x.told(-1), CopiedSkins.OUTSIDE);
        DUE.is("told 9", x.told(9), CopiedSkins.OUTSIDE);
    }
}
